section
-- ===== PART A: goes FIRST, ahead of the names: the tables' words, and 'selects' of the private methods out of them =====
/-- a private method of a class that the tables say can be made, by its rows of tables_1 -/
def lw_okq (q : MethodName × Nat) : Prop := (q.1.cls ≠ "java/lang/invoke/MethodHandle" ∧ q.1.cls ≠ "java/lang/invoke/VarHandle") ∧ Cond.instantiable q.1.cls q.2 ∈ tables_1 ∧ Cond.privateMethod q.1 ∈ tables_1 ∧ Cond.instanceMethod q.1 ∈ tables_1
theorem lw_p0 : lw_okq (⟨"LoafLetters$Reader", "readItem", "(LLoafLetters$Text;LLoafLetters$Valley;)Z"⟩, 2) := ⟨⟨by decide +kernel, by decide +kernel⟩, List.mem_of_getElem? (i := 39) (by decide +kernel), List.mem_of_getElem? (i := 242) (by decide +kernel), List.mem_of_getElem? (i := 243) (by decide +kernel)⟩
theorem lw_p1 : lw_okq (⟨"LoafLetters$Reader", "readNumbers", "(LLoafLetters$Text;I)Z"⟩, 2) := ⟨⟨by decide +kernel, by decide +kernel⟩, List.mem_of_getElem? (i := 39) (by decide +kernel), List.mem_of_getElem? (i := 250) (by decide +kernel), List.mem_of_getElem? (i := 251) (by decide +kernel)⟩
theorem lw_p2 : lw_okq (⟨"LoafLetters$Reader", "readNumber", "(LLoafLetters$Text;)I"⟩, 2) := ⟨⟨by decide +kernel, by decide +kernel⟩, List.mem_of_getElem? (i := 39) (by decide +kernel), List.mem_of_getElem? (i := 254) (by decide +kernel), List.mem_of_getElem? (i := 255) (by decide +kernel)⟩
theorem lw_p3 : lw_okq (⟨"LoafLetters", "isWord", "(I)Z"⟩, 9) := ⟨⟨by decide +kernel, by decide +kernel⟩, List.mem_of_getElem? (i := 17) (by decide +kernel), List.mem_of_getElem? (i := 295) (by decide +kernel), List.mem_of_getElem? (i := 296) (by decide +kernel)⟩
theorem lw_p4 : lw_okq (⟨"LoafLetters$Shelf", "dropOldest", "()V"⟩, 3) := ⟨⟨by decide +kernel, by decide +kernel⟩, List.mem_of_getElem? (i := 63) (by decide +kernel), List.mem_of_getElem? (i := 336) (by decide +kernel), List.mem_of_getElem? (i := 337) (by decide +kernel)⟩
theorem lw_p5 : lw_okq (⟨"LoafLetters", "wordBehind", "(I)I"⟩, 9) := ⟨⟨by decide +kernel, by decide +kernel⟩, List.mem_of_getElem? (i := 17) (by decide +kernel), List.mem_of_getElem? (i := 349) (by decide +kernel), List.mem_of_getElem? (i := 350) (by decide +kernel)⟩
theorem lw_p6 : lw_okq (⟨"LoafLetters$Larder", "change", "(III)V"⟩, 1) := ⟨⟨by decide +kernel, by decide +kernel⟩, List.mem_of_getElem? (i := 53) (by decide +kernel), List.mem_of_getElem? (i := 358) (by decide +kernel), List.mem_of_getElem? (i := 359) (by decide +kernel)⟩
theorem lw_p7 : lw_okq (⟨"LoafLetters", "readingOf", "(I)I"⟩, 9) := ⟨⟨by decide +kernel, by decide +kernel⟩, List.mem_of_getElem? (i := 17) (by decide +kernel), List.mem_of_getElem? (i := 387) (by decide +kernel), List.mem_of_getElem? (i := 388) (by decide +kernel)⟩
theorem lw_p8 : lw_okq (⟨"LoafLetters", "signNow", "(I)I"⟩, 9) := ⟨⟨by decide +kernel, by decide +kernel⟩, List.mem_of_getElem? (i := 17) (by decide +kernel), List.mem_of_getElem? (i := 391) (by decide +kernel), List.mem_of_getElem? (i := 392) (by decide +kernel)⟩
theorem lw_p9 : lw_okq (⟨"LoafLetters$Reach", "markBitten", "(III)V"⟩, 2) := ⟨⟨by decide +kernel, by decide +kernel⟩, List.mem_of_getElem? (i := 82) (by decide +kernel), List.mem_of_getElem? (i := 476) (by decide +kernel), List.mem_of_getElem? (i := 477) (by decide +kernel)⟩
theorem lw_p10 : lw_okq (⟨"LoafLetters$Reach", "mark", "(II)V"⟩, 2) := ⟨⟨by decide +kernel, by decide +kernel⟩, List.mem_of_getElem? (i := 82) (by decide +kernel), List.mem_of_getElem? (i := 480) (by decide +kernel), List.mem_of_getElem? (i := 481) (by decide +kernel)⟩
theorem lw_p11 : lw_okq (⟨"LoafLetters$CodeSearch", "extend", "(III)V"⟩, 5) := ⟨⟨by decide +kernel, by decide +kernel⟩, List.mem_of_getElem? (i := 96) (by decide +kernel), List.mem_of_getElem? (i := 524) (by decide +kernel), List.mem_of_getElem? (i := 525) (by decide +kernel)⟩
theorem lw_p12 : lw_okq (⟨"LoafLetters$CodeSearch", "staysApart", "(II)Z"⟩, 5) := ⟨⟨by decide +kernel, by decide +kernel⟩, List.mem_of_getElem? (i := 96) (by decide +kernel), List.mem_of_getElem? (i := 530) (by decide +kernel), List.mem_of_getElem? (i := 531) (by decide +kernel)⟩
theorem lw_p13 : lw_okq (⟨"LoafLetters", "isCarrier", "(I)Z"⟩, 9) := ⟨⟨by decide +kernel, by decide +kernel⟩, List.mem_of_getElem? (i := 17) (by decide +kernel), List.mem_of_getElem? (i := 551) (by decide +kernel), List.mem_of_getElem? (i := 552) (by decide +kernel)⟩
theorem lw_p14 : lw_okq (⟨"LoafLettersModel", "begins", "()V"⟩, 22) := ⟨⟨by decide +kernel, by decide +kernel⟩, List.mem_of_getElem? (i := 658) (by decide +kernel), List.mem_of_getElem? (i := 664) (by decide +kernel), List.mem_of_getElem? (i := 665) (by decide +kernel)⟩
theorem lw_p15 : lw_okq (⟨"LoafLettersModel", "takes", "()V"⟩, 22) := ⟨⟨by decide +kernel, by decide +kernel⟩, List.mem_of_getElem? (i := 658) (by decide +kernel), List.mem_of_getElem? (i := 668) (by decide +kernel), List.mem_of_getElem? (i := 669) (by decide +kernel)⟩
def lw_privs_1 : List (MethodName × Nat) := [(⟨"LoafLetters$Reader", "readItem", "(LLoafLetters$Text;LLoafLetters$Valley;)Z"⟩, 2), (⟨"LoafLetters$Reader", "readNumbers", "(LLoafLetters$Text;I)Z"⟩, 2), (⟨"LoafLetters$Reader", "readNumber", "(LLoafLetters$Text;)I"⟩, 2), (⟨"LoafLetters", "isWord", "(I)Z"⟩, 9), (⟨"LoafLetters$Shelf", "dropOldest", "()V"⟩, 3), (⟨"LoafLetters", "wordBehind", "(I)I"⟩, 9), (⟨"LoafLetters$Larder", "change", "(III)V"⟩, 1), (⟨"LoafLetters", "readingOf", "(I)I"⟩, 9), (⟨"LoafLetters", "signNow", "(I)I"⟩, 9), (⟨"LoafLetters$Reach", "markBitten", "(III)V"⟩, 2), (⟨"LoafLetters$Reach", "mark", "(II)V"⟩, 2), (⟨"LoafLetters$CodeSearch", "extend", "(III)V"⟩, 5), (⟨"LoafLetters$CodeSearch", "staysApart", "(II)Z"⟩, 5), (⟨"LoafLetters", "isCarrier", "(I)Z"⟩, 9), (⟨"LoafLettersModel", "begins", "()V"⟩, 22), (⟨"LoafLettersModel", "takes", "()V"⟩, 22)]
theorem lw_r1 : ∀ q ∈ lw_privs_1, lw_okq q := List.forall_mem_cons.mpr ⟨lw_p0, List.forall_mem_cons.mpr ⟨lw_p1, List.forall_mem_cons.mpr ⟨lw_p2, List.forall_mem_cons.mpr ⟨lw_p3, List.forall_mem_cons.mpr ⟨lw_p4, List.forall_mem_cons.mpr ⟨lw_p5, List.forall_mem_cons.mpr ⟨lw_p6, List.forall_mem_cons.mpr ⟨lw_p7, List.forall_mem_cons.mpr ⟨lw_p8, List.forall_mem_cons.mpr ⟨lw_p9, List.forall_mem_cons.mpr ⟨lw_p10, List.forall_mem_cons.mpr ⟨lw_p11, List.forall_mem_cons.mpr ⟨lw_p12, List.forall_mem_cons.mpr ⟨lw_p13, List.forall_mem_cons.mpr ⟨lw_p14, List.forall_mem_cons.mpr ⟨lw_p15, fun _ h => absurd h List.not_mem_nil⟩⟩⟩⟩⟩⟩⟩⟩⟩⟩⟩⟩⟩⟩⟩⟩
theorem lw_p16 : lw_okq (⟨"LoafLettersModel", "isItem", "()Z"⟩, 22) := ⟨⟨by decide +kernel, by decide +kernel⟩, List.mem_of_getElem? (i := 658) (by decide +kernel), List.mem_of_getElem? (i := 756) (by decide +kernel), List.mem_of_getElem? (i := 757) (by decide +kernel)⟩
theorem lw_p17 : lw_okq (⟨"LoafLettersModel", "number", "()I"⟩, 22) := ⟨⟨by decide +kernel, by decide +kernel⟩, List.mem_of_getElem? (i := 658) (by decide +kernel), List.mem_of_getElem? (i := 763) (by decide +kernel), List.mem_of_getElem? (i := 764) (by decide +kernel)⟩
theorem lw_p18 : lw_okq (⟨"LoafLettersModel", "isGood", "(I)Z"⟩, 22) := ⟨⟨by decide +kernel, by decide +kernel⟩, List.mem_of_getElem? (i := 658) (by decide +kernel), List.mem_of_getElem? (i := 770) (by decide +kernel), List.mem_of_getElem? (i := 771) (by decide +kernel)⟩
theorem lw_p19 : lw_okq (⟨"LoafLettersModel", "isIn", "(III)Z"⟩, 22) := ⟨⟨by decide +kernel, by decide +kernel⟩, List.mem_of_getElem? (i := 658) (by decide +kernel), List.mem_of_getElem? (i := 774) (by decide +kernel), List.mem_of_getElem? (i := 775) (by decide +kernel)⟩
theorem lw_p20 : lw_okq (⟨"LoafLettersModel", "isWord", "(I)Z"⟩, 22) := ⟨⟨by decide +kernel, by decide +kernel⟩, List.mem_of_getElem? (i := 658) (by decide +kernel), List.mem_of_getElem? (i := 787) (by decide +kernel), List.mem_of_getElem? (i := 788) (by decide +kernel)⟩
theorem lw_p21 : lw_okq (⟨"LoafLettersModel", "used", "(II)I"⟩, 22) := ⟨⟨by decide +kernel, by decide +kernel⟩, List.mem_of_getElem? (i := 658) (by decide +kernel), List.mem_of_getElem? (i := 799) (by decide +kernel), List.mem_of_getElem? (i := 800) (by decide +kernel)⟩
theorem lw_p22 : lw_okq (⟨"LoafLettersModel", "baked", "(II)I"⟩, 22) := ⟨⟨by decide +kernel, by decide +kernel⟩, List.mem_of_getElem? (i := 658) (by decide +kernel), List.mem_of_getElem? (i := 803) (by decide +kernel), List.mem_of_getElem? (i := 804) (by decide +kernel)⟩
theorem lw_p23 : lw_okq (⟨"LoafLettersModel", "known", "(II)V"⟩, 22) := ⟨⟨by decide +kernel, by decide +kernel⟩, List.mem_of_getElem? (i := 658) (by decide +kernel), List.mem_of_getElem? (i := 807) (by decide +kernel), List.mem_of_getElem? (i := 808) (by decide +kernel)⟩
theorem lw_p24 : lw_okq (⟨"LoafLettersModel", "ages", "(I)V"⟩, 22) := ⟨⟨by decide +kernel, by decide +kernel⟩, List.mem_of_getElem? (i := 658) (by decide +kernel), List.mem_of_getElem? (i := 815) (by decide +kernel), List.mem_of_getElem? (i := 816) (by decide +kernel)⟩
theorem lw_p25 : lw_okq (⟨"LoafLettersModel", "hasNow", "(I)I"⟩, 22) := ⟨⟨by decide +kernel, by decide +kernel⟩, List.mem_of_getElem? (i := 658) (by decide +kernel), List.mem_of_getElem? (i := 819) (by decide +kernel), List.mem_of_getElem? (i := 820) (by decide +kernel)⟩
theorem lw_p26 : lw_okq (⟨"LoafLettersModel", "become", "(III)I"⟩, 22) := ⟨⟨by decide +kernel, by decide +kernel⟩, List.mem_of_getElem? (i := 658) (by decide +kernel), List.mem_of_getElem? (i := 823) (by decide +kernel), List.mem_of_getElem? (i := 824) (by decide +kernel)⟩
theorem lw_p27 : lw_okq (⟨"LoafLettersModel", "aged", "(II)I"⟩, 22) := ⟨⟨by decide +kernel, by decide +kernel⟩, List.mem_of_getElem? (i := 658) (by decide +kernel), List.mem_of_getElem? (i := 827) (by decide +kernel), List.mem_of_getElem? (i := 828) (by decide +kernel)⟩
theorem lw_p28 : lw_okq (⟨"LoafLettersModel", "read", "(I)I"⟩, 22) := ⟨⟨by decide +kernel, by decide +kernel⟩, List.mem_of_getElem? (i := 658) (by decide +kernel), List.mem_of_getElem? (i := 834) (by decide +kernel), List.mem_of_getElem? (i := 835) (by decide +kernel)⟩
theorem lw_p29 : lw_okq (⟨"LoafLettersModel", "isLoaf", "(I)Z"⟩, 22) := ⟨⟨by decide +kernel, by decide +kernel⟩, List.mem_of_getElem? (i := 658) (by decide +kernel), List.mem_of_getElem? (i := 842) (by decide +kernel), List.mem_of_getElem? (i := 843) (by decide +kernel)⟩
theorem lw_p30 : lw_okq (⟨"LoafLettersModel", "isAble", "(IIII)Z"⟩, 22) := ⟨⟨by decide +kernel, by decide +kernel⟩, List.mem_of_getElem? (i := 658) (by decide +kernel), List.mem_of_getElem? (i := 875) (by decide +kernel), List.mem_of_getElem? (i := 876) (by decide +kernel)⟩
theorem lw_p31 : lw_okq (⟨"LoafLettersModel", "codes", "(III)V"⟩, 22) := ⟨⟨by decide +kernel, by decide +kernel⟩, List.mem_of_getElem? (i := 658) (by decide +kernel), List.mem_of_getElem? (i := 896) (by decide +kernel), List.mem_of_getElem? (i := 897) (by decide +kernel)⟩
def lw_privs_2 : List (MethodName × Nat) := [(⟨"LoafLettersModel", "isItem", "()Z"⟩, 22), (⟨"LoafLettersModel", "number", "()I"⟩, 22), (⟨"LoafLettersModel", "isGood", "(I)Z"⟩, 22), (⟨"LoafLettersModel", "isIn", "(III)Z"⟩, 22), (⟨"LoafLettersModel", "isWord", "(I)Z"⟩, 22), (⟨"LoafLettersModel", "used", "(II)I"⟩, 22), (⟨"LoafLettersModel", "baked", "(II)I"⟩, 22), (⟨"LoafLettersModel", "known", "(II)V"⟩, 22), (⟨"LoafLettersModel", "ages", "(I)V"⟩, 22), (⟨"LoafLettersModel", "hasNow", "(I)I"⟩, 22), (⟨"LoafLettersModel", "become", "(III)I"⟩, 22), (⟨"LoafLettersModel", "aged", "(II)I"⟩, 22), (⟨"LoafLettersModel", "read", "(I)I"⟩, 22), (⟨"LoafLettersModel", "isLoaf", "(I)Z"⟩, 22), (⟨"LoafLettersModel", "isAble", "(IIII)Z"⟩, 22), (⟨"LoafLettersModel", "codes", "(III)V"⟩, 22)]
theorem lw_r2 : ∀ q ∈ lw_privs_2, lw_okq q := List.forall_mem_cons.mpr ⟨lw_p16, List.forall_mem_cons.mpr ⟨lw_p17, List.forall_mem_cons.mpr ⟨lw_p18, List.forall_mem_cons.mpr ⟨lw_p19, List.forall_mem_cons.mpr ⟨lw_p20, List.forall_mem_cons.mpr ⟨lw_p21, List.forall_mem_cons.mpr ⟨lw_p22, List.forall_mem_cons.mpr ⟨lw_p23, List.forall_mem_cons.mpr ⟨lw_p24, List.forall_mem_cons.mpr ⟨lw_p25, List.forall_mem_cons.mpr ⟨lw_p26, List.forall_mem_cons.mpr ⟨lw_p27, List.forall_mem_cons.mpr ⟨lw_p28, List.forall_mem_cons.mpr ⟨lw_p29, List.forall_mem_cons.mpr ⟨lw_p30, List.forall_mem_cons.mpr ⟨lw_p31, fun _ h => absurd h List.not_mem_nil⟩⟩⟩⟩⟩⟩⟩⟩⟩⟩⟩⟩⟩⟩⟩⟩
theorem lw_p32 : lw_okq (⟨"LoafLettersModel", "isApart", "(II)Z"⟩, 22) := ⟨⟨by decide +kernel, by decide +kernel⟩, List.mem_of_getElem? (i := 658) (by decide +kernel), List.mem_of_getElem? (i := 900) (by decide +kernel), List.mem_of_getElem? (i := 901) (by decide +kernel)⟩
theorem lw_p33 : lw_okq (⟨"LoafLettersModel", "isCarrier", "(I)Z"⟩, 22) := ⟨⟨by decide +kernel, by decide +kernel⟩, List.mem_of_getElem? (i := 658) (by decide +kernel), List.mem_of_getElem? (i := 908) (by decide +kernel), List.mem_of_getElem? (i := 909) (by decide +kernel)⟩
theorem lw_p34 : lw_okq (⟨"LoafLettersModel", "reads", "(III)J"⟩, 22) := ⟨⟨by decide +kernel, by decide +kernel⟩, List.mem_of_getElem? (i := 658) (by decide +kernel), List.mem_of_getElem? (i := 915) (by decide +kernel), List.mem_of_getElem? (i := 916) (by decide +kernel)⟩
theorem lw_p35 : lw_okq (⟨"LoafLettersModel", "tens", "(I)J"⟩, 22) := ⟨⟨by decide +kernel, by decide +kernel⟩, List.mem_of_getElem? (i := 658) (by decide +kernel), List.mem_of_getElem? (i := 923) (by decide +kernel), List.mem_of_getElem? (i := 924) (by decide +kernel)⟩
theorem lw_p36 : lw_okq (⟨"LoafLettersModel", "lowest", "(JJ)V"⟩, 22) := ⟨⟨by decide +kernel, by decide +kernel⟩, List.mem_of_getElem? (i := 658) (by decide +kernel), List.mem_of_getElem? (i := 927) (by decide +kernel), List.mem_of_getElem? (i := 928) (by decide +kernel)⟩
theorem lw_p37 : lw_okq (⟨"LoafLettersModel", "copies", "(II)V"⟩, 22) := ⟨⟨by decide +kernel, by decide +kernel⟩, List.mem_of_getElem? (i := 658) (by decide +kernel), List.mem_of_getElem? (i := 962) (by decide +kernel), List.mem_of_getElem? (i := 963) (by decide +kernel)⟩
def lw_privs_3 : List (MethodName × Nat) := [(⟨"LoafLettersModel", "isApart", "(II)Z"⟩, 22), (⟨"LoafLettersModel", "isCarrier", "(I)Z"⟩, 22), (⟨"LoafLettersModel", "reads", "(III)J"⟩, 22), (⟨"LoafLettersModel", "tens", "(I)J"⟩, 22), (⟨"LoafLettersModel", "lowest", "(JJ)V"⟩, 22), (⟨"LoafLettersModel", "copies", "(II)V"⟩, 22)]
theorem lw_r3 : ∀ q ∈ lw_privs_3, lw_okq q := List.forall_mem_cons.mpr ⟨lw_p32, List.forall_mem_cons.mpr ⟨lw_p33, List.forall_mem_cons.mpr ⟨lw_p34, List.forall_mem_cons.mpr ⟨lw_p35, List.forall_mem_cons.mpr ⟨lw_p36, List.forall_mem_cons.mpr ⟨lw_p37, fun _ h => absurd h List.not_mem_nil⟩⟩⟩⟩⟩⟩
def lw_privs : List (MethodName × Nat) := lw_privs_1 ++ (lw_privs_2 ++ (lw_privs_3))
def lw_tbl : List Cond := k2_sels lw_privs ++ tables_1
theorem lw_privs_ok : ∀ q ∈ lw_privs, lw_okq q := by
  show ∀ q ∈ lw_privs_1 ++ (lw_privs_2 ++ (lw_privs_3)), lw_okq q
  exact List.forall_mem_append.mpr ⟨lw_r1, List.forall_mem_append.mpr ⟨lw_r2, lw_r3⟩⟩
/-- the words that stay: the tables' words that a call may hand on -/
def TB : List Cond := lw_tbl.filter goodWord
theorem inTB {w : Cond} (h : w ∈ lw_tbl) (hg : goodWord w = true) : w ∈ TB := List.mem_filter.mpr ⟨h, hg⟩
theorem inTg {w : Cond} (h : w ∈ tables_1) (hg : goodWord w = true) : w ∈ TB := inTB (List.mem_append_right _ h) hg
theorem inT1 {w : Cond} (h : w ∈ tables_1_1) (hg : goodWord w = true) : w ∈ TB := inTg (List.mem_append_left _ h) hg
theorem inT2 {w : Cond} (h : w ∈ tables_1_2) (hg : goodWord w = true) : w ∈ TB := inTg (List.mem_append_right _ (List.mem_append_left _ h)) hg
theorem inT3 {w : Cond} (h : w ∈ tables_1_3) (hg : goodWord w = true) : w ∈ TB := inTg (List.mem_append_right _ (List.mem_append_right _ (List.mem_append_left _ h))) hg
theorem inT4 {w : Cond} (h : w ∈ tables_1_4) (hg : goodWord w = true) : w ∈ TB := inTg (List.mem_append_right _ (List.mem_append_right _ (List.mem_append_right _ (List.mem_append_left _ h)))) hg
theorem inT5 {w : Cond} (h : w ∈ tables_1_5) (hg : goodWord w = true) : w ∈ TB := inTg (List.mem_append_right _ (List.mem_append_right _ (List.mem_append_right _ (List.mem_append_right _ h)))) hg
theorem inPS {q : MethodName × Nat} (h : q ∈ lw_privs) : Cond.selects q.1.cls q.1 q.1 ∈ TB := inTB (List.mem_append_left _ (List.mem_map.mpr ⟨q, h, rfl⟩)) rfl
theorem TB_tbl {w : Cond} (h : w ∈ TB) : w ∈ lw_tbl := (List.mem_filter.mp h).1
theorem TB_good {w : Cond} (h : w ∈ TB) : (w.onTables && w.keeps) = true ∨ ∃ ty, w = .arrayClass ty := good_of_word (List.mem_filter.mp h).2
theorem goodTB {big : List Cond} {w : Cond} (hb : ∀ v ∈ TB, v ∈ big) (hw : w ∈ TB) : GoodIn big (w :: TB) := fun v hv => (List.mem_cons.mp hv).elim (fun e => e ▸ ⟨hb _ hw, TB_good hw⟩) (fun h => ⟨hb v h, TB_good h⟩)
end
section
def RX0 : String := "LoafLetters$CodeSearch"
def TX0 : u_T := fun k => match k with
  | 0 => ("LoafLetters$CodeSearch", "reach", "LLoafLetters$Reach;", true)
  | 1 => ("LoafLetters$CodeSearch", "chosen", "[I", true)
  | 2 => ("LoafLetters$CodeSearch", "best", "[I", true)
  | 3 => ("LoafLetters$CodeSearch", "wanted", "I", false)
  | _ => ("LoafLetters$CodeSearch", "least", "I", false)
def tyX0 : Nat → FieldType := fun k => match k with
  | 0 => .object "LoafLetters$Reach"
  | 1 => .array .int
  | 2 => .array .int
  | 3 => .int
  | _ => .int
theorem nmX0 : ∀ a, a < 5 → ∀ b, b < 5 → a ≠ b → (TX0 a).2.1 ≠ (TX0 b).2.1 := by decide +kernel
theorem tyX0_ok : ∀ k, k < 5 → parseFieldDescriptor (TX0 k).2.2.1 = some (tyX0 k) := by decide +kernel
abbrev cX0_init : ByteArray := prog_2_method_1_code
def yX0_init : MethodName := ⟨RX0, "<init>", "(LLoafLetters$Reach;)V"⟩
abbrev cX0_find : ByteArray := prog_2_method_2_code
def yX0_find : MethodName := ⟨RX0, "find", "(LLoafLetters$Valley;III)Z"⟩
abbrev cX0_leastFlour : ByteArray := prog_2_method_3_code
def yX0_leastFlour : MethodName := ⟨RX0, "leastFlour", "()I"⟩
abbrev cX0_signAt : ByteArray := prog_2_method_4_code
def yX0_signAt : MethodName := ⟨RX0, "signAt", "(I)I"⟩
abbrev cX0_extend : ByteArray := prog_2_method_5_code
def yX0_extend : MethodName := ⟨RX0, "extend", "(III)V"⟩
abbrev cX0_staysApart : ByteArray := prog_2_method_6_code
def yX0_staysApart : MethodName := ⟨RX0, "staysApart", "(II)Z"⟩
def RX1 : String := "LoafLetters$Larder"
def TX1 : u_T := fun k => match k with
  | _ => ("LoafLetters$Larder", "cells", "[I", true)
def tyX1 : Nat → FieldType := fun k => match k with
  | _ => .array .int
theorem nmX1 : ∀ a, a < 1 → ∀ b, b < 1 → a ≠ b → (TX1 a).2.1 ≠ (TX1 b).2.1 := by decide +kernel
theorem tyX1_ok : ∀ k, k < 1 → parseFieldDescriptor (TX1 k).2.2.1 = some (tyX1 k) := by decide +kernel
abbrev cX1_init : ByteArray := prog_3_method_1_code
def yX1_init : MethodName := ⟨RX1, "<init>", "()V"⟩
abbrev cX1_size : ByteArray := prog_3_method_2_code
def yX1_size : MethodName := ⟨RX1, "size", "()I"⟩
abbrev cX1_flour : ByteArray := prog_3_method_3_code
def yX1_flour : MethodName := ⟨RX1, "flour", "()I"⟩
abbrev cX1_isFull : ByteArray := prog_3_method_4_code
def yX1_isFull : MethodName := ⟨RX1, "isFull", "()Z"⟩
abbrev cX1_holds : ByteArray := prog_3_method_5_code
def yX1_holds : MethodName := ⟨RX1, "holds", "(I)Z"⟩
abbrev cX1_part : ByteArray := prog_3_method_6_code
def yX1_part : MethodName := ⟨RX1, "part", "(II)I"⟩
abbrev cX1_clear : ByteArray := prog_3_method_7_code
def yX1_clear : MethodName := ⟨RX1, "clear", "()V"⟩
abbrev cX1_useFlour : ByteArray := prog_3_method_8_code
def yX1_useFlour : MethodName := ⟨RX1, "useFlour", "(I)V"⟩
abbrev cX1_add : ByteArray := prog_3_method_9_code
def yX1_add : MethodName := ⟨RX1, "add", "(III)V"⟩
abbrev cX1_addBite : ByteArray := prog_3_method_10_code
def yX1_addBite : MethodName := ⟨RX1, "addBite", "(I)V"⟩
abbrev cX1_passDay : ByteArray := prog_3_method_11_code
def yX1_passDay : MethodName := ⟨RX1, "passDay", "()V"⟩
abbrev cX1_remove : ByteArray := prog_3_method_12_code
def yX1_remove : MethodName := ⟨RX1, "remove", "(I)V"⟩
abbrev cX1_copyTo : ByteArray := prog_3_method_13_code
def yX1_copyTo : MethodName := ⟨RX1, "copyTo", "([II)V"⟩
abbrev cX1_copyFrom : ByteArray := prog_3_method_14_code
def yX1_copyFrom : MethodName := ⟨RX1, "copyFrom", "([II)V"⟩
abbrev cX1_change : ByteArray := prog_3_method_15_code
def yX1_change : MethodName := ⟨RX1, "change", "(III)V"⟩
def RX2 : String := "LoafLetters$Odds"
def TX2 : u_T := fun k => match k with
  | _ => ("", "", "", false)
def tyX2 : Nat → FieldType := fun k => match k with
  | _ => .int
theorem nmX2 : ∀ a, a < 0 → ∀ b, b < 0 → a ≠ b → (TX2 a).2.1 ≠ (TX2 b).2.1 := by decide +kernel
theorem tyX2_ok : ∀ k, k < 0 → parseFieldDescriptor (TX2 k).2.2.1 = some (tyX2 k) := by decide +kernel
abbrev cX2_power : ByteArray := prog_4_method_2_code
def yX2_power : MethodName := ⟨RX2, "power", "(JI)J"⟩
abbrev cX2_choose : ByteArray := prog_4_method_3_code
def yX2_choose : MethodName := ⟨RX2, "choose", "(II)J"⟩
abbrev cX2_lowest : ByteArray := prog_4_method_4_code
def yX2_lowest : MethodName := ⟨RX2, "lowest", "(JJI)J"⟩
abbrev cX2_commonDivisor : ByteArray := prog_4_method_5_code
def yX2_commonDivisor : MethodName := ⟨RX2, "commonDivisor", "(JJ)J"⟩
def RX3 : String := "LoafLetters$Reach"
def TX3 : u_T := fun k => match k with
  | 0 => ("LoafLetters$Reach", "low", "[J", true)
  | _ => ("LoafLetters$Reach", "high", "[J", true)
def tyX3 : Nat → FieldType := fun k => match k with
  | 0 => .array .long
  | _ => .array .long
theorem nmX3 : ∀ a, a < 2 → ∀ b, b < 2 → a ≠ b → (TX3 a).2.1 ≠ (TX3 b).2.1 := by decide +kernel
theorem tyX3_ok : ∀ k, k < 2 → parseFieldDescriptor (TX3 k).2.2.1 = some (tyX3 k) := by decide +kernel
abbrev cX3_init : ByteArray := prog_5_method_1_code
def yX3_init : MethodName := ⟨RX3, "<init>", "()V"⟩
abbrev cX3_fill : ByteArray := prog_5_method_2_code
def yX3_fill : MethodName := ⟨RX3, "fill", "(LLoafLetters$Valley;III)V"⟩
abbrev cX3_markBitten : ByteArray := prog_5_method_3_code
def yX3_markBitten : MethodName := ⟨RX3, "markBitten", "(III)V"⟩
abbrev cX3_sizeOf : ByteArray := prog_5_method_4_code
def yX3_sizeOf : MethodName := ⟨RX3, "sizeOf", "(I)I"⟩
abbrev cX3_holds : ByteArray := prog_5_method_5_code
def yX3_holds : MethodName := ⟨RX3, "holds", "(II)Z"⟩
abbrev cX3_meet : ByteArray := prog_5_method_6_code
def yX3_meet : MethodName := ⟨RX3, "meet", "(II)Z"⟩
abbrev cX3_mark : ByteArray := prog_5_method_7_code
def yX3_mark : MethodName := ⟨RX3, "mark", "(II)V"⟩
def RX4 : String := "LoafLetters$Reader"
def TX4 : u_T := fun k => match k with
  | 0 => ("LoafLetters$Reader", "numbers", "[I", true)
  | _ => ("LoafLetters$Reader", "place", "I", false)
def tyX4 : Nat → FieldType := fun k => match k with
  | 0 => .array .int
  | _ => .int
theorem nmX4 : ∀ a, a < 2 → ∀ b, b < 2 → a ≠ b → (TX4 a).2.1 ≠ (TX4 b).2.1 := by decide +kernel
theorem tyX4_ok : ∀ k, k < 2 → parseFieldDescriptor (TX4 k).2.2.1 = some (tyX4 k) := by decide +kernel
abbrev cX4_init : ByteArray := prog_6_method_1_code
def yX4_init : MethodName := ⟨RX4, "<init>", "()V"⟩
abbrev cX4_firstFault : ByteArray := prog_6_method_2_code
def yX4_firstFault : MethodName := ⟨RX4, "firstFault", "(LLoafLetters$Text;LLoafLetters$Valley;)I"⟩
abbrev cX4_readItem : ByteArray := prog_6_method_3_code
def yX4_readItem : MethodName := ⟨RX4, "readItem", "(LLoafLetters$Text;LLoafLetters$Valley;)Z"⟩
abbrev cX4_readNumbers : ByteArray := prog_6_method_4_code
def yX4_readNumbers : MethodName := ⟨RX4, "readNumbers", "(LLoafLetters$Text;I)Z"⟩
abbrev cX4_readNumber : ByteArray := prog_6_method_5_code
def yX4_readNumber : MethodName := ⟨RX4, "readNumber", "(LLoafLetters$Text;)I"⟩
abbrev cX4_isFigure : ByteArray := prog_6_method_6_code
def yX4_isFigure : MethodName := ⟨RX4, "isFigure", "(I)Z"⟩
def RX5 : String := "LoafLetters$Shelf"
def TX5 : u_T := fun k => match k with
  | 0 => ("LoafLetters$Shelf", "depth", "I", true)
  | 1 => ("LoafLetters$Shelf", "row", "[I", true)
  | _ => ("LoafLetters$Shelf", "size", "I", false)
def tyX5 : Nat → FieldType := fun k => match k with
  | 0 => .int
  | 1 => .array .int
  | _ => .int
theorem nmX5 : ∀ a, a < 3 → ∀ b, b < 3 → a ≠ b → (TX5 a).2.1 ≠ (TX5 b).2.1 := by decide +kernel
theorem tyX5_ok : ∀ k, k < 3 → parseFieldDescriptor (TX5 k).2.2.1 = some (tyX5 k) := by decide +kernel
abbrev cX5_init : ByteArray := prog_7_method_1_code
def yX5_init : MethodName := ⟨RX5, "<init>", "(I)V"⟩
abbrev cX5_size : ByteArray := prog_7_method_2_code
def yX5_size : MethodName := ⟨RX5, "size", "()I"⟩
abbrev cX5_isFull : ByteArray := prog_7_method_3_code
def yX5_isFull : MethodName := ⟨RX5, "isFull", "()Z"⟩
abbrev cX5_clear : ByteArray := prog_7_method_4_code
def yX5_clear : MethodName := ⟨RX5, "clear", "()V"⟩
abbrev cX5_push : ByteArray := prog_7_method_5_code
def yX5_push : MethodName := ⟨RX5, "push", "(LLoafLetters$Larder;)V"⟩
abbrev cX5_popInto : ByteArray := prog_7_method_6_code
def yX5_popInto : MethodName := ⟨RX5, "popInto", "(LLoafLetters$Larder;)V"⟩
abbrev cX5_dropOldest : ByteArray := prog_7_method_7_code
def yX5_dropOldest : MethodName := ⟨RX5, "dropOldest", "()V"⟩
def RX6 : String := "LoafLetters$Sign"
def TX6 : u_T := fun k => match k with
  | _ => ("", "", "", false)
def tyX6 : Nat → FieldType := fun k => match k with
  | _ => .int
theorem nmX6 : ∀ a, a < 0 → ∀ b, b < 0 → a ≠ b → (TX6 a).2.1 ≠ (TX6 b).2.1 := by decide +kernel
theorem tyX6_ok : ∀ k, k < 0 → parseFieldDescriptor (TX6 k).2.2.1 = some (tyX6 k) := by decide +kernel
abbrev cX6_of : ByteArray := prog_8_method_2_code
def yX6_of : MethodName := ⟨RX6, "of", "(III)I"⟩
abbrev cX6_seeds : ByteArray := prog_8_method_3_code
def yX6_seeds : MethodName := ⟨RX6, "seeds", "(I)I"⟩
abbrev cX6_cuts : ByteArray := prog_8_method_4_code
def yX6_cuts : MethodName := ⟨RX6, "cuts", "(I)I"⟩
abbrev cX6_filling : ByteArray := prog_8_method_5_code
def yX6_filling : MethodName := ⟨RX6, "filling", "(I)I"⟩
abbrev cX6_flour : ByteArray := prog_8_method_6_code
def yX6_flour : MethodName := ⟨RX6, "flour", "(I)I"⟩
abbrev cX6_bitten : ByteArray := prog_8_method_7_code
def yX6_bitten : MethodName := ⟨RX6, "bitten", "(I)I"⟩
def RX7 : String := "LoafLetters$Text"
def TX7 : u_T := fun k => match k with
  | 0 => ("LoafLetters$Text", "bytes", "[B", true)
  | _ => ("LoafLetters$Text", "length", "I", false)
def tyX7 : Nat → FieldType := fun k => match k with
  | 0 => .array .byte
  | _ => .int
theorem nmX7 : ∀ a, a < 2 → ∀ b, b < 2 → a ≠ b → (TX7 a).2.1 ≠ (TX7 b).2.1 := by decide +kernel
theorem tyX7_ok : ∀ k, k < 2 → parseFieldDescriptor (TX7 k).2.2.1 = some (tyX7 k) := by decide +kernel
abbrev cX7_init : ByteArray := prog_9_method_1_code
def yX7_init : MethodName := ⟨RX7, "<init>", "()V"⟩
abbrev cX7_length : ByteArray := prog_9_method_2_code
def yX7_length : MethodName := ⟨RX7, "length", "()I"⟩
abbrev cX7_clear : ByteArray := prog_9_method_3_code
def yX7_clear : MethodName := ⟨RX7, "clear", "()V"⟩
abbrev cX7_hasRoom : ByteArray := prog_9_method_4_code
def yX7_hasRoom : MethodName := ⟨RX7, "hasRoom", "(I)Z"⟩
abbrev cX7_append : ByteArray := prog_9_method_5_code
def yX7_append : MethodName := ⟨RX7, "append", "(IJ)V"⟩
abbrev cX7_byteAt : ByteArray := prog_9_method_6_code
def yX7_byteAt : MethodName := ⟨RX7, "byteAt", "(I)I"⟩
def RX8 : String := "LoafLetters$Valley"
def TX8 : u_T := fun k => match k with
  | 0 => ("LoafLetters$Valley", "signs", "[I", true)
  | 1 => ("LoafLetters$Valley", "worths", "[I", true)
  | 2 => ("LoafLetters$Valley", "hungers", "[I", true)
  | 3 => ("LoafLetters$Valley", "miles", "[I", true)
  | 4 => ("LoafLetters$Valley", "knowledge", "[I", true)
  | 5 => ("LoafLetters$Valley", "words", "I", false)
  | 6 => ("LoafLetters$Valley", "carriers", "I", false)
  | 7 => ("LoafLetters$Valley", "bakers", "I", false)
  | 8 => ("LoafLetters$Valley", "birds", "I", false)
  | _ => ("LoafLetters$Valley", "mould", "I", false)
def tyX8 : Nat → FieldType := fun k => match k with
  | 0 => .array .int
  | 1 => .array .int
  | 2 => .array .int
  | 3 => .array .int
  | 4 => .array .int
  | 5 => .int
  | 6 => .int
  | 7 => .int
  | 8 => .int
  | _ => .int
theorem nmX8 : ∀ a, a < 10 → ∀ b, b < 10 → a ≠ b → (TX8 a).2.1 ≠ (TX8 b).2.1 := by decide +kernel
theorem tyX8_ok : ∀ k, k < 10 → parseFieldDescriptor (TX8 k).2.2.1 = some (tyX8 k) := by decide +kernel
abbrev cX8_init : ByteArray := prog_10_method_1_code
def yX8_init : MethodName := ⟨RX8, "<init>", "()V"⟩
abbrev cX8_clear : ByteArray := prog_10_method_2_code
def yX8_clear : MethodName := ⟨RX8, "clear", "()V"⟩
abbrev cX8_addWord : ByteArray := prog_10_method_3_code
def yX8_addWord : MethodName := ⟨RX8, "addWord", "(IIII)Z"⟩
abbrev cX8_setLosses : ByteArray := prog_10_method_4_code
def yX8_setLosses : MethodName := ⟨RX8, "setLosses", "(II)Z"⟩
abbrev cX8_addCarrier : ByteArray := prog_10_method_5_code
def yX8_addCarrier : MethodName := ⟨RX8, "addCarrier", "(II)Z"⟩
abbrev cX8_addBaker : ByteArray := prog_10_method_6_code
def yX8_addBaker : MethodName := ⟨RX8, "addBaker", "(I)Z"⟩
abbrev cX8_words : ByteArray := prog_10_method_7_code
def yX8_words : MethodName := ⟨RX8, "words", "()I"⟩
abbrev cX8_carriers : ByteArray := prog_10_method_8_code
def yX8_carriers : MethodName := ⟨RX8, "carriers", "()I"⟩
abbrev cX8_bakers : ByteArray := prog_10_method_9_code
def yX8_bakers : MethodName := ⟨RX8, "bakers", "()I"⟩
abbrev cX8_signOf : ByteArray := prog_10_method_10_code
def yX8_signOf : MethodName := ⟨RX8, "signOf", "(I)I"⟩
abbrev cX8_worthOf : ByteArray := prog_10_method_11_code
def yX8_worthOf : MethodName := ⟨RX8, "worthOf", "(I)I"⟩
abbrev cX8_milesOf : ByteArray := prog_10_method_12_code
def yX8_milesOf : MethodName := ⟨RX8, "milesOf", "(I)I"⟩
abbrev cX8_readAs : ByteArray := prog_10_method_13_code
def yX8_readAs : MethodName := ⟨RX8, "readAs", "(I)I"⟩
abbrev cX8_aged : ByteArray := prog_10_method_14_code
def yX8_aged : MethodName := ⟨RX8, "aged", "(II)I"⟩
abbrev cX8_turned : ByteArray := prog_10_method_15_code
def yX8_turned : MethodName := ⟨RX8, "turned", "(III)I"⟩
abbrev cX8_waysRead : ByteArray := prog_10_method_16_code
def yX8_waysRead : MethodName := ⟨RX8, "waysRead", "(III)J"⟩
abbrev cX8_worthOfSet : ByteArray := prog_10_method_17_code
def yX8_worthOfSet : MethodName := ⟨RX8, "worthOfSet", "(I)I"⟩
abbrev cX8_flourOfSet : ByteArray := prog_10_method_18_code
def yX8_flourOfSet : MethodName := ⟨RX8, "flourOfSet", "(I)I"⟩
abbrev cX8_bakersKnowing : ByteArray := prog_10_method_19_code
def yX8_bakersKnowing : MethodName := ⟨RX8, "bakersKnowing", "(I)I"⟩
def RX9 : String := "LoafLetters"
def TX9 : u_T := fun k => match k with
  | 0 => ("LoafLetters", "text", "LLoafLetters$Text;", true)
  | 1 => ("LoafLetters", "reader", "LLoafLetters$Reader;", true)
  | 2 => ("LoafLetters", "larder", "LLoafLetters$Larder;", true)
  | 3 => ("LoafLetters", "undoable", "LLoafLetters$Shelf;", true)
  | 4 => ("LoafLetters", "kept", "LLoafLetters$Shelf;", true)
  | 5 => ("LoafLetters", "reach", "LLoafLetters$Reach;", true)
  | 6 => ("LoafLetters", "search", "LLoafLetters$CodeSearch;", true)
  | 7 => ("LoafLetters", "laid", "LLoafLetters$Valley;", false)
  | _ => ("LoafLetters", "draft", "LLoafLetters$Valley;", false)
def tyX9 : Nat → FieldType := fun k => match k with
  | 0 => .object "LoafLetters$Text"
  | 1 => .object "LoafLetters$Reader"
  | 2 => .object "LoafLetters$Larder"
  | 3 => .object "LoafLetters$Shelf"
  | 4 => .object "LoafLetters$Shelf"
  | 5 => .object "LoafLetters$Reach"
  | 6 => .object "LoafLetters$CodeSearch"
  | 7 => .object "LoafLetters$Valley"
  | _ => .object "LoafLetters$Valley"
theorem nmX9 : ∀ a, a < 9 → ∀ b, b < 9 → a ≠ b → (TX9 a).2.1 ≠ (TX9 b).2.1 := by decide +kernel
theorem tyX9_ok : ∀ k, k < 9 → parseFieldDescriptor (TX9 k).2.2.1 = some (tyX9 k) := by decide +kernel
abbrev cX9_init : ByteArray := prog_1_method_1_code
def yX9_init : MethodName := ⟨RX9, "<init>", "()V"⟩
abbrev cX9_write : ByteArray := prog_1_method_2_code
def yX9_write : MethodName := ⟨RX9, "write", "(IJ)I"⟩
abbrev cX9_wipe : ByteArray := prog_1_method_3_code
def yX9_wipe : MethodName := ⟨RX9, "wipe", "()I"⟩
abbrev cX9_fault : ByteArray := prog_1_method_4_code
def yX9_fault : MethodName := ⟨RX9, "fault", "()I"⟩
abbrev cX9_lay : ByteArray := prog_1_method_5_code
def yX9_lay : MethodName := ⟨RX9, "lay", "()I"⟩
abbrev cX9_word : ByteArray := prog_1_method_6_code
def yX9_word : MethodName := ⟨RX9, "word", "(II)I"⟩
abbrev cX9_bake : ByteArray := prog_1_method_7_code
def yX9_bake : MethodName := ⟨RX9, "bake", "(II)I"⟩
abbrev cX9_day : ByteArray := prog_1_method_8_code
def yX9_day : MethodName := ⟨RX9, "day", "()I"⟩
abbrev cX9_bite : ByteArray := prog_1_method_9_code
def yX9_bite : MethodName := ⟨RX9, "bite", "(I)I"⟩
abbrev cX9_take : ByteArray := prog_1_method_10_code
def yX9_take : MethodName := ⟨RX9, "take", "(I)I"⟩
abbrev cX9_undo : ByteArray := prog_1_method_11_code
def yX9_undo : MethodName := ⟨RX9, "undo", "()I"⟩
abbrev cX9_loaf : ByteArray := prog_1_method_12_code
def yX9_loaf : MethodName := ⟨RX9, "loaf", "(II)I"⟩
abbrev cX9_becomes : ByteArray := prog_1_method_13_code
def yX9_becomes : MethodName := ⟨RX9, "becomes", "(III)I"⟩
abbrev cX9_mayBe : ByteArray := prog_1_method_14_code
def yX9_mayBe : MethodName := ⟨RX9, "mayBe", "(III)I"⟩
abbrev cX9_can : ByteArray := prog_1_method_15_code
def yX9_can : MethodName := ⟨RX9, "can", "(IIII)I"⟩
abbrev cX9_was : ByteArray := prog_1_method_16_code
def yX9_was : MethodName := ⟨RX9, "was", "(III)I"⟩
abbrev cX9_half : ByteArray := prog_1_method_17_code
def yX9_half : MethodName := ⟨RX9, "half", "(III)I"⟩
abbrev cX9_code : ByteArray := prog_1_method_18_code
def yX9_code : MethodName := ⟨RX9, "code", "(IIII)I"⟩
abbrev cX9_sent : ByteArray := prog_1_method_19_code
def yX9_sent : MethodName := ⟨RX9, "sent", "(IIII)I"⟩
abbrev cX9_whom : ByteArray := prog_1_method_20_code
def yX9_whom : MethodName := ⟨RX9, "whom", "(II)I"⟩
abbrev cX9_two : ByteArray := prog_1_method_21_code
def yX9_two : MethodName := ⟨RX9, "two", "(IIIII)J"⟩
abbrev cX9_said : ByteArray := prog_1_method_22_code
def yX9_said : MethodName := ⟨RX9, "said", "(II)I"⟩
abbrev cX9_told : ByteArray := prog_1_method_23_code
def yX9_told : MethodName := ⟨RX9, "told", "(II)I"⟩
abbrev cX9_month : ByteArray := prog_1_method_24_code
def yX9_month : MethodName := ⟨RX9, "month", "(III)I"⟩
abbrev cX9_keep : ByteArray := prog_1_method_25_code
def yX9_keep : MethodName := ⟨RX9, "keep", "()I"⟩
abbrev cX9_back : ByteArray := prog_1_method_26_code
def yX9_back : MethodName := ⟨RX9, "back", "()I"⟩
abbrev cX9_count : ByteArray := prog_1_method_27_code
def yX9_count : MethodName := ⟨RX9, "count", "(I)I"⟩
abbrev cX9_within : ByteArray := prog_1_method_28_code
def yX9_within : MethodName := ⟨RX9, "within", "(III)Z"⟩
abbrev cX9_isSign : ByteArray := prog_1_method_29_code
def yX9_isSign : MethodName := ⟨RX9, "isSign", "(I)Z"⟩
abbrev cX9_isAge : ByteArray := prog_1_method_30_code
def yX9_isAge : MethodName := ⟨RX9, "isAge", "(I)Z"⟩
abbrev cX9_isLoss : ByteArray := prog_1_method_31_code
def yX9_isLoss : MethodName := ⟨RX9, "isLoss", "(II)Z"⟩
abbrev cX9_isChoice : ByteArray := prog_1_method_32_code
def yX9_isChoice : MethodName := ⟨RX9, "isChoice", "(I)Z"⟩
abbrev cX9_isWord : ByteArray := prog_1_method_33_code
def yX9_isWord : MethodName := ⟨RX9, "isWord", "(I)Z"⟩
abbrev cX9_isCarrier : ByteArray := prog_1_method_34_code
def yX9_isCarrier : MethodName := ⟨RX9, "isCarrier", "(I)Z"⟩
abbrev cX9_wordBehind : ByteArray := prog_1_method_35_code
def yX9_wordBehind : MethodName := ⟨RX9, "wordBehind", "(I)I"⟩
abbrev cX9_flourOf : ByteArray := prog_1_method_36_code
def yX9_flourOf : MethodName := ⟨RX9, "flourOf", "(II)I"⟩
abbrev cX9_signNow : ByteArray := prog_1_method_37_code
def yX9_signNow : MethodName := ⟨RX9, "signNow", "(I)I"⟩
abbrev cX9_readingOf : ByteArray := prog_1_method_38_code
def yX9_readingOf : MethodName := ⟨RX9, "readingOf", "(I)I"⟩
abbrev cX9_drawOf : ByteArray := prog_1_method_39_code
def yX9_drawOf : MethodName := ⟨RX9, "drawOf", "(II)I"⟩
abbrev cX9_at : ByteArray := prog_1_method_40_code
def yX9_at : MethodName := ⟨RX9, "at", "([II)I"⟩
def RX10 : String := "LoafLettersModel"
def TX10 : u_T := fun k => match k with
  | 0 => ("LoafLettersModel", "length", "I", false)
  | 1 => ("LoafLettersModel", "text", "[B", true)
  | 2 => ("LoafLettersModel", "at", "I", false)
  | 3 => ("LoafLettersModel", "told", "[I", true)
  | 4 => ("LoafLettersModel", "words", "[I", true)
  | 5 => ("LoafLettersModel", "word", "[I", true)
  | 6 => ("LoafLettersModel", "carriers", "[I", true)
  | 7 => ("LoafLettersModel", "carrier", "[I", true)
  | 8 => ("LoafLettersModel", "bakers", "[I", true)
  | 9 => ("LoafLettersModel", "baker", "[I", true)
  | 10 => ("LoafLettersModel", "loaves", "[I", true)
  | 11 => ("LoafLettersModel", "loaf", "[I", true)
  | 12 => ("LoafLettersModel", "flour", "[I", true)
  | 13 => ("LoafLettersModel", "kept", "I", false)
  | 14 => ("LoafLettersModel", "done", "I", false)
  | 15 => ("LoafLettersModel", "did", "[I", true)
  | 16 => ("LoafLettersModel", "reach", "[Z", true)
  | 17 => ("LoafLettersModel", "best", "[I", true)
  | 18 => ("LoafLettersModel", "above", "J", false)
  | 19 => ("LoafLettersModel", "below", "J", false)
  | 20 => ("LoafLettersModel", "got", "[I", true)
  | _ => ("LoafLettersModel", "codeLeast", "I", false)
def tyX10 : Nat → FieldType := fun k => match k with
  | 0 => .int
  | 1 => .array .byte
  | 2 => .int
  | 3 => .array .int
  | 4 => .array .int
  | 5 => .array .int
  | 6 => .array .int
  | 7 => .array .int
  | 8 => .array .int
  | 9 => .array .int
  | 10 => .array .int
  | 11 => .array .int
  | 12 => .array .int
  | 13 => .int
  | 14 => .int
  | 15 => .array .int
  | 16 => .array .boolean
  | 17 => .array .int
  | 18 => .long
  | 19 => .long
  | 20 => .array .int
  | _ => .int
theorem nmX10 : ∀ a, a < 22 → ∀ b, b < 22 → a ≠ b → (TX10 a).2.1 ≠ (TX10 b).2.1 := by decide +kernel
theorem tyX10_ok : ∀ k, k < 22 → parseFieldDescriptor (TX10 k).2.2.1 = some (tyX10 k) := by decide +kernel
abbrev cX10_init : ByteArray := prog_12_method_1_code
def yX10_init : MethodName := ⟨RX10, "<init>", "()V"⟩
abbrev cX10_in : ByteArray := prog_12_method_2_code
def yX10_in : MethodName := ⟨RX10, "in", "(JJJ)Z"⟩
abbrev cX10_write : ByteArray := prog_12_method_3_code
def yX10_write : MethodName := ⟨RX10, "write", "(IJ)I"⟩
abbrev cX10_wipe : ByteArray := prog_12_method_4_code
def yX10_wipe : MethodName := ⟨RX10, "wipe", "()I"⟩
abbrev cX10_number : ByteArray := prog_12_method_5_code
def yX10_number : MethodName := ⟨RX10, "number", "()I"⟩
abbrev cX10_parts : ByteArray := prog_12_method_6_code
def yX10_parts : MethodName := ⟨RX10, "parts", "(I)I"⟩
abbrev cX10_isIn : ByteArray := prog_12_method_7_code
def yX10_isIn : MethodName := ⟨RX10, "isIn", "(III)Z"⟩
abbrev cX10_isItem : ByteArray := prog_12_method_8_code
def yX10_isItem : MethodName := ⟨RX10, "isItem", "()Z"⟩
abbrev cX10_isGood : ByteArray := prog_12_method_9_code
def yX10_isGood : MethodName := ⟨RX10, "isGood", "(I)Z"⟩
abbrev cX10_begins : ByteArray := prog_12_method_10_code
def yX10_begins : MethodName := ⟨RX10, "begins", "()V"⟩
abbrev cX10_takes : ByteArray := prog_12_method_11_code
def yX10_takes : MethodName := ⟨RX10, "takes", "()V"⟩
abbrev cX10_fault : ByteArray := prog_12_method_12_code
def yX10_fault : MethodName := ⟨RX10, "fault", "()I"⟩
abbrev cX10_lay : ByteArray := prog_12_method_13_code
def yX10_lay : MethodName := ⟨RX10, "lay", "()I"⟩
abbrev cX10_isWord : ByteArray := prog_12_method_14_code
def yX10_isWord : MethodName := ⟨RX10, "isWord", "(I)Z"⟩
abbrev cX10_flourOf : ByteArray := prog_12_method_15_code
def yX10_flourOf : MethodName := ⟨RX10, "flourOf", "(I)I"⟩
abbrev cX10_word : ByteArray := prog_12_method_16_code
def yX10_word : MethodName := ⟨RX10, "word", "(II)I"⟩
abbrev cX10_aged : ByteArray := prog_12_method_17_code
def yX10_aged : MethodName := ⟨RX10, "aged", "(II)I"⟩
abbrev cX10_bitten : ByteArray := prog_12_method_18_code
def yX10_bitten : MethodName := ⟨RX10, "bitten", "(II)I"⟩
abbrev cX10_become : ByteArray := prog_12_method_19_code
def yX10_become : MethodName := ⟨RX10, "become", "(III)I"⟩
abbrev cX10_read : ByteArray := prog_12_method_20_code
def yX10_read : MethodName := ⟨RX10, "read", "(I)I"⟩
abbrev cX10_baked : ByteArray := prog_12_method_21_code
def yX10_baked : MethodName := ⟨RX10, "baked", "(II)I"⟩
abbrev cX10_hasNow : ByteArray := prog_12_method_22_code
def yX10_hasNow : MethodName := ⟨RX10, "hasNow", "(I)I"⟩
abbrev cX10_known : ByteArray := prog_12_method_23_code
def yX10_known : MethodName := ⟨RX10, "known", "(II)V"⟩
abbrev cX10_used : ByteArray := prog_12_method_24_code
def yX10_used : MethodName := ⟨RX10, "used", "(II)I"⟩
abbrev cX10_bake : ByteArray := prog_12_method_25_code
def yX10_bake : MethodName := ⟨RX10, "bake", "(II)I"⟩
abbrev cX10_ages : ByteArray := prog_12_method_26_code
def yX10_ages : MethodName := ⟨RX10, "ages", "(I)V"⟩
abbrev cX10_day : ByteArray := prog_12_method_27_code
def yX10_day : MethodName := ⟨RX10, "day", "()I"⟩
abbrev cX10_isLoaf : ByteArray := prog_12_method_28_code
def yX10_isLoaf : MethodName := ⟨RX10, "isLoaf", "(I)Z"⟩
abbrev cX10_bite : ByteArray := prog_12_method_29_code
def yX10_bite : MethodName := ⟨RX10, "bite", "(I)I"⟩
abbrev cX10_take : ByteArray := prog_12_method_30_code
def yX10_take : MethodName := ⟨RX10, "take", "(I)I"⟩
abbrev cX10_undo : ByteArray := prog_12_method_31_code
def yX10_undo : MethodName := ⟨RX10, "undo", "()I"⟩
abbrev cX10_loaf : ByteArray := prog_12_method_32_code
def yX10_loaf : MethodName := ⟨RX10, "loaf", "(II)I"⟩
abbrev cX10_isSign : ByteArray := prog_12_method_33_code
def yX10_isSign : MethodName := ⟨RX10, "isSign", "(I)Z"⟩
abbrev cX10_isSpan : ByteArray := prog_12_method_34_code
def yX10_isSpan : MethodName := ⟨RX10, "isSpan", "(II)Z"⟩
abbrev cX10_becomes : ByteArray := prog_12_method_35_code
def yX10_becomes : MethodName := ⟨RX10, "becomes", "(III)I"⟩
abbrev cX10_isAble : ByteArray := prog_12_method_36_code
def yX10_isAble : MethodName := ⟨RX10, "isAble", "(IIII)Z"⟩
abbrev cX10_mayBe : ByteArray := prog_12_method_37_code
def yX10_mayBe : MethodName := ⟨RX10, "mayBe", "(III)I"⟩
abbrev cX10_can : ByteArray := prog_12_method_38_code
def yX10_can : MethodName := ⟨RX10, "can", "(IIII)I"⟩
abbrev cX10_was : ByteArray := prog_12_method_39_code
def yX10_was : MethodName := ⟨RX10, "was", "(III)I"⟩
abbrev cX10_half : ByteArray := prog_12_method_40_code
def yX10_half : MethodName := ⟨RX10, "half", "(III)I"⟩
abbrev cX10_isApart : ByteArray := prog_12_method_41_code
def yX10_isApart : MethodName := ⟨RX10, "isApart", "(II)Z"⟩
abbrev cX10_codes : ByteArray := prog_12_method_42_code
def yX10_codes : MethodName := ⟨RX10, "codes", "(III)V"⟩
abbrev cX10_code : ByteArray := prog_12_method_43_code
def yX10_code : MethodName := ⟨RX10, "code", "(IIII)I"⟩
abbrev cX10_isCarrier : ByteArray := prog_12_method_44_code
def yX10_isCarrier : MethodName := ⟨RX10, "isCarrier", "(I)Z"⟩
abbrev cX10_power : ByteArray := prog_12_method_45_code
def yX10_power : MethodName := ⟨RX10, "power", "(JI)J"⟩
abbrev cX10_reads : ByteArray := prog_12_method_46_code
def yX10_reads : MethodName := ⟨RX10, "reads", "(III)J"⟩
abbrev cX10_tens : ByteArray := prog_12_method_47_code
def yX10_tens : MethodName := ⟨RX10, "tens", "(I)J"⟩
abbrev cX10_lowest : ByteArray := prog_12_method_48_code
def yX10_lowest : MethodName := ⟨RX10, "lowest", "(JJ)V"⟩
abbrev cX10_isAge : ByteArray := prog_12_method_49_code
def yX10_isAge : MethodName := ⟨RX10, "isAge", "(I)Z"⟩
abbrev cX10_sent : ByteArray := prog_12_method_50_code
def yX10_sent : MethodName := ⟨RX10, "sent", "(IIII)I"⟩
abbrev cX10_whom : ByteArray := prog_12_method_51_code
def yX10_whom : MethodName := ⟨RX10, "whom", "(II)I"⟩
abbrev cX10_two : ByteArray := prog_12_method_52_code
def yX10_two : MethodName := ⟨RX10, "two", "(IIIII)J"⟩
abbrev cX10_said : ByteArray := prog_12_method_53_code
def yX10_said : MethodName := ⟨RX10, "said", "(II)I"⟩
abbrev cX10_told : ByteArray := prog_12_method_54_code
def yX10_told : MethodName := ⟨RX10, "told", "(II)I"⟩
abbrev cX10_month : ByteArray := prog_12_method_55_code
def yX10_month : MethodName := ⟨RX10, "month", "(III)I"⟩
abbrev cX10_copies : ByteArray := prog_12_method_56_code
def yX10_copies : MethodName := ⟨RX10, "copies", "(II)V"⟩
abbrev cX10_keep : ByteArray := prog_12_method_57_code
def yX10_keep : MethodName := ⟨RX10, "keep", "()I"⟩
abbrev cX10_back : ByteArray := prog_12_method_58_code
def yX10_back : MethodName := ⟨RX10, "back", "()I"⟩
abbrev cX10_count : ByteArray := prog_12_method_59_code
def yX10_count : MethodName := ⟨RX10, "count", "(I)I"⟩
def RJ6 : String := "java/lang/Integer"
def TJ6 : u_T := fun k => match k with
  | _ => ("", "", "", false)
def tyJ6 : Nat → FieldType := fun k => match k with
  | _ => .int
abbrev cJ6_numberOfTrailingZeros_0f7a4 : ByteArray := prog_13_method_48_code
def yJ6_numberOfTrailingZeros_0f7a4 : MethodName := ⟨RJ6, "numberOfTrailingZeros", "(I)I"⟩
abbrev cJ6_bitCount_0f7a4 : ByteArray := prog_13_method_49_code
def yJ6_bitCount_0f7a4 : MethodName := ⟨RJ6, "bitCount", "(I)I"⟩
def RJ13 : String := "java/lang/Long"
def TJ13 : u_T := fun k => match k with
  | _ => ("", "", "", false)
def tyJ13 : Nat → FieldType := fun k => match k with
  | _ => .int
abbrev cJ13_bitCount_95d88 : ByteArray := prog_14_method_50_code
def yJ13_bitCount_95d88 : MethodName := ⟨RJ13, "bitCount", "(J)I"⟩
def RJ9 : String := "java/lang/Math"
def TJ9 : u_T := fun k => match k with
  | _ => ("", "", "", false)
def tyJ9 : Nat → FieldType := fun k => match k with
  | _ => .int
abbrev cJ9_max_7cf53 : ByteArray := prog_15_method_65_code
def yJ9_max_7cf53 : MethodName := ⟨RJ9, "max", "(II)I"⟩
abbrev cJ9_min_7cf53 : ByteArray := prog_15_method_69_code
def yJ9_min_7cf53 : MethodName := ⟨RJ9, "min", "(II)I"⟩
def RJ10 : String := "java/lang/System"
def TJ10 : u_T := fun k => match k with
  | _ => ("", "", "", false)
def tyJ10 : Nat → FieldType := fun k => match k with
  | _ => .int
def RL : String := "LoafLettersLaw"
abbrev cL_law : ByteArray := code
def yL_law : MethodName := ⟨RL, "law", "([I)Z"⟩
abbrev vwCl : List vw_C := [(RX0, TX0, 5), (RX1, TX1, 1), (RX3, TX3, 2), (RX4, TX4, 2), (RX5, TX5, 3), (RX7, TX7, 2), (RX8, TX8, 10), (RX9, TX9, 9), (RX10, TX10, 22)]
end
section
set_option maxRecDepth 20000 in
theorem kn_L : Cond.initialized RL ∈ TB := inT1 (List.mem_of_getElem? (i := 0) rfl) rfl
set_option maxRecDepth 20000 in
theorem kn_X9 : Cond.initialized RX9 ∈ TB := inT1 (List.mem_of_getElem? (i := 1) rfl) rfl
set_option maxRecDepth 20000 in
theorem kn_X7 : Cond.initialized RX7 ∈ TB := inT1 (List.mem_of_getElem? (i := 2) rfl) rfl
set_option maxRecDepth 20000 in
theorem kn_X4 : Cond.initialized RX4 ∈ TB := inT1 (List.mem_of_getElem? (i := 3) rfl) rfl
set_option maxRecDepth 20000 in
theorem kn_X1 : Cond.initialized RX1 ∈ TB := inT1 (List.mem_of_getElem? (i := 4) rfl) rfl
set_option maxRecDepth 20000 in
theorem kn_X5 : Cond.initialized RX5 ∈ TB := inT1 (List.mem_of_getElem? (i := 5) rfl) rfl
set_option maxRecDepth 20000 in
theorem kn_J9 : Cond.initialized RJ9 ∈ TB := inT1 (List.mem_of_getElem? (i := 6) rfl) rfl
set_option maxRecDepth 20000 in
theorem kn_X3 : Cond.initialized RX3 ∈ TB := inT1 (List.mem_of_getElem? (i := 7) rfl) rfl
set_option maxRecDepth 20000 in
theorem kn_X0 : Cond.initialized RX0 ∈ TB := inT1 (List.mem_of_getElem? (i := 8) rfl) rfl
set_option maxRecDepth 20000 in
theorem kn_X8 : Cond.initialized RX8 ∈ TB := inT1 (List.mem_of_getElem? (i := 9) rfl) rfl
set_option maxRecDepth 20000 in
theorem kn_X6 : Cond.initialized RX6 ∈ TB := inT1 (List.mem_of_getElem? (i := 10) rfl) rfl
set_option maxRecDepth 20000 in
theorem kn_X10 : Cond.initialized RX10 ∈ TB := inT1 (List.mem_of_getElem? (i := 11) rfl) rfl
set_option maxRecDepth 20000 in
theorem kn_J10 : Cond.initialized RJ10 ∈ TB := inT1 (List.mem_of_getElem? (i := 12) rfl) rfl
set_option maxRecDepth 20000 in
theorem kn_J13 : Cond.initialized RJ13 ∈ TB := inT1 (List.mem_of_getElem? (i := 13) rfl) rfl
set_option maxRecDepth 20000 in
theorem kn_X2 : Cond.initialized RX2 ∈ TB := inT1 (List.mem_of_getElem? (i := 14) rfl) rfl
set_option maxRecDepth 20000 in
theorem kn_J6 : Cond.initialized RJ6 ∈ TB := inT1 (List.mem_of_getElem? (i := 15) rfl) rfl
set_option maxRecDepth 20000 in
theorem kk_L_7 : Cond.classLink RL 7 RX9 ∈ TB := inT1 (List.mem_of_getElem? (i := 16) rfl) rfl
set_option maxRecDepth 20000 in
theorem kb_X9 : Cond.instantiable RX9 9 ∈ TB := inT1 (List.mem_of_getElem? (i := 17) rfl) rfl
set_option maxRecDepth 20000 in
theorem kl_L_9 : Cond.methodLink RL 9 yX9_init ∈ TB := inT1 (List.mem_of_getElem? (i := 18) rfl) rfl
set_option maxRecDepth 20000 in
theorem ki_X9_init : Cond.instanceMethod yX9_init ∈ TB := inT1 (List.mem_of_getElem? (i := 19) rfl) rfl
set_option maxRecDepth 20000 in
theorem kc_X9_init : Cond.code yX9_init cX9_init 1 none ∈ TB := inT1 (List.mem_of_getElem? (i := 20) rfl) rfl
set_option maxRecDepth 20000 in
theorem kl_X9_1 : Cond.methodLink RX9 1 objectInit ∈ TB := inT1 (List.mem_of_getElem? (i := 21) rfl) rfl
set_option maxRecDepth 20000 in
theorem ki_objectInit : Cond.instanceMethod objectInit ∈ TB := inT1 (List.mem_of_getElem? (i := 22) rfl) rfl
set_option maxRecDepth 20000 in
theorem kc_objectInit : Cond.code objectInit ⟨#[0xb1]⟩ 1 none ∈ TB := inT1 (List.mem_of_getElem? (i := 23) rfl) rfl
set_option maxRecDepth 20000 in
theorem kk_X9_7 : Cond.classLink RX9 7 RX7 ∈ TB := inT1 (List.mem_of_getElem? (i := 24) rfl) rfl
set_option maxRecDepth 20000 in
theorem kb_X7 : Cond.instantiable RX7 2 ∈ TB := inT1 (List.mem_of_getElem? (i := 25) rfl) rfl
set_option maxRecDepth 20000 in
theorem ki_X7_init : Cond.instanceMethod yX7_init ∈ TB := inT1 (List.mem_of_getElem? (i := 27) rfl) rfl
set_option maxRecDepth 20000 in
theorem kc_X7_init : Cond.code yX7_init cX7_init 1 none ∈ TB := inT1 (List.mem_of_getElem? (i := 28) rfl) rfl
set_option maxRecDepth 20000 in
theorem kl_X7_1 : Cond.methodLink RX7 1 objectInit ∈ TB := inT1 (List.mem_of_getElem? (i := 29) rfl) rfl
set_option maxRecDepth 20000 in
theorem kf_X7_9 : Cond.fieldLink RX7 9 "LoafLetters$Text" "bytes" "[B" ∈ TB := inT1 (List.mem_of_getElem? (i := 30) rfl) rfl
set_option maxRecDepth 20000 in
theorem kf_X7_13 : Cond.fieldLink RX7 13 "LoafLetters$Text" "length" "I" ∈ TB := inT1 (List.mem_of_getElem? (i := 31) rfl) rfl
set_option maxRecDepth 20000 in
theorem ka_byte : Cond.arrayClass .byte ∈ TB := inT1 (List.mem_of_getElem? (i := 37) rfl) rfl
set_option maxRecDepth 20000 in
theorem kk_X9_16 : Cond.classLink RX9 16 RX4 ∈ TB := inT1 (List.mem_of_getElem? (i := 38) rfl) rfl
set_option maxRecDepth 20000 in
theorem kb_X4 : Cond.instantiable RX4 2 ∈ TB := inT1 (List.mem_of_getElem? (i := 39) rfl) rfl
set_option maxRecDepth 20000 in
theorem ki_X4_init : Cond.instanceMethod yX4_init ∈ TB := inT1 (List.mem_of_getElem? (i := 41) rfl) rfl
set_option maxRecDepth 20000 in
theorem kc_X4_init : Cond.code yX4_init cX4_init 1 none ∈ TB := inT1 (List.mem_of_getElem? (i := 42) rfl) rfl
set_option maxRecDepth 20000 in
theorem kl_X4_3 : Cond.methodLink RX4 3 objectInit ∈ TB := inT1 (List.mem_of_getElem? (i := 43) rfl) rfl
set_option maxRecDepth 20000 in
theorem kf_X4_9 : Cond.fieldLink RX4 9 "LoafLetters$Reader" "numbers" "[I" ∈ TB := inT1 (List.mem_of_getElem? (i := 44) rfl) rfl
set_option maxRecDepth 20000 in
theorem kf_X4_20 : Cond.fieldLink RX4 20 "LoafLetters$Reader" "place" "I" ∈ TB := inT1 (List.mem_of_getElem? (i := 45) rfl) rfl
set_option maxRecDepth 20000 in
theorem ka_int : Cond.arrayClass .int ∈ TB := inT1 (List.mem_of_getElem? (i := 51) rfl) rfl
set_option maxRecDepth 20000 in
theorem kk_X9_23 : Cond.classLink RX9 23 RX1 ∈ TB := inT1 (List.mem_of_getElem? (i := 52) rfl) rfl
set_option maxRecDepth 20000 in
theorem kb_X1 : Cond.instantiable RX1 1 ∈ TB := inT1 (List.mem_of_getElem? (i := 53) rfl) rfl
set_option maxRecDepth 20000 in
theorem ki_X1_init : Cond.instanceMethod yX1_init ∈ TB := inT1 (List.mem_of_getElem? (i := 55) rfl) rfl
set_option maxRecDepth 20000 in
theorem kc_X1_init : Cond.code yX1_init cX1_init 1 none ∈ TB := inT1 (List.mem_of_getElem? (i := 56) rfl) rfl
set_option maxRecDepth 20000 in
theorem kl_X1_3 : Cond.methodLink RX1 3 objectInit ∈ TB := inT1 (List.mem_of_getElem? (i := 57) rfl) rfl
set_option maxRecDepth 20000 in
theorem kf_X1_9 : Cond.fieldLink RX1 9 "LoafLetters$Larder" "cells" "[I" ∈ TB := inT1 (List.mem_of_getElem? (i := 58) rfl) rfl
set_option maxRecDepth 20000 in
theorem kk_X9_30 : Cond.classLink RX9 30 RX5 ∈ TB := inT1 (List.mem_of_getElem? (i := 62) rfl) rfl
set_option maxRecDepth 20000 in
theorem kb_X5 : Cond.instantiable RX5 3 ∈ TB := inT1 (List.mem_of_getElem? (i := 63) rfl) rfl
set_option maxRecDepth 20000 in
theorem kl_X9_32 : Cond.methodLink RX9 32 yX5_init ∈ TB := inT1 (List.mem_of_getElem? (i := 64) rfl) rfl
set_option maxRecDepth 20000 in
theorem ki_X5_init : Cond.instanceMethod yX5_init ∈ TB := inT1 (List.mem_of_getElem? (i := 65) rfl) rfl
set_option maxRecDepth 20000 in
theorem kc_X5_init : Cond.code yX5_init cX5_init 2 none ∈ TB := inT1 (List.mem_of_getElem? (i := 66) rfl) rfl
set_option maxRecDepth 20000 in
theorem kl_X5_1 : Cond.methodLink RX5 1 objectInit ∈ TB := inT1 (List.mem_of_getElem? (i := 67) rfl) rfl
set_option maxRecDepth 20000 in
theorem kl_X5_7 : Cond.methodLink RX5 7 yJ9_max_7cf53 ∈ TB := inT1 (List.mem_of_getElem? (i := 68) rfl) rfl
set_option maxRecDepth 20000 in
theorem ks_J9_max_7cf53 : Cond.static yJ9_max_7cf53 ∈ TB := inT1 (List.mem_of_getElem? (i := 69) rfl) rfl
set_option maxRecDepth 20000 in
theorem kc_J9_max_7cf53 : Cond.code yJ9_max_7cf53 cJ9_max_7cf53 2 (some .int) ∈ TB := inT1 (List.mem_of_getElem? (i := 70) rfl) rfl
set_option maxRecDepth 20000 in
theorem kf_X5_13 : Cond.fieldLink RX5 13 "LoafLetters$Shelf" "depth" "I" ∈ TB := inT1 (List.mem_of_getElem? (i := 71) rfl) rfl
set_option maxRecDepth 20000 in
theorem kf_X5_21 : Cond.fieldLink RX5 21 "LoafLetters$Shelf" "row" "[I" ∈ TB := inT1 (List.mem_of_getElem? (i := 72) rfl) rfl
set_option maxRecDepth 20000 in
theorem kf_X5_25 : Cond.fieldLink RX5 25 "LoafLetters$Shelf" "size" "I" ∈ TB := inT1 (List.mem_of_getElem? (i := 73) rfl) rfl
set_option maxRecDepth 20000 in
theorem kk_X9_42 : Cond.classLink RX9 42 RX3 ∈ TB := inT1 (List.mem_of_getElem? (i := 81) rfl) rfl
set_option maxRecDepth 20000 in
theorem kb_X3 : Cond.instantiable RX3 2 ∈ TB := inT1 (List.mem_of_getElem? (i := 82) rfl) rfl
set_option maxRecDepth 20000 in
theorem ki_X3_init : Cond.instanceMethod yX3_init ∈ TB := inT1 (List.mem_of_getElem? (i := 84) rfl) rfl
set_option maxRecDepth 20000 in
theorem kc_X3_init : Cond.code yX3_init cX3_init 1 none ∈ TB := inT1 (List.mem_of_getElem? (i := 85) rfl) rfl
set_option maxRecDepth 20000 in
theorem kl_X3_3 : Cond.methodLink RX3 3 objectInit ∈ TB := inT1 (List.mem_of_getElem? (i := 86) rfl) rfl
set_option maxRecDepth 20000 in
theorem kf_X3_9 : Cond.fieldLink RX3 9 "LoafLetters$Reach" "low" "[J" ∈ TB := inT1 (List.mem_of_getElem? (i := 87) rfl) rfl
set_option maxRecDepth 20000 in
theorem kf_X3_15 : Cond.fieldLink RX3 15 "LoafLetters$Reach" "high" "[J" ∈ TB := inT1 (List.mem_of_getElem? (i := 88) rfl) rfl
set_option maxRecDepth 20000 in
theorem ka_long : Cond.arrayClass .long ∈ TB := inT1 (List.mem_of_getElem? (i := 94) rfl) rfl
set_option maxRecDepth 20000 in
theorem kk_X9_49 : Cond.classLink RX9 49 RX0 ∈ TB := inT1 (List.mem_of_getElem? (i := 95) rfl) rfl
set_option maxRecDepth 20000 in
theorem kb_X0 : Cond.instantiable RX0 5 ∈ TB := inT1 (List.mem_of_getElem? (i := 96) rfl) rfl
set_option maxRecDepth 20000 in
theorem kl_X9_51 : Cond.methodLink RX9 51 yX0_init ∈ TB := inT1 (List.mem_of_getElem? (i := 97) rfl) rfl
set_option maxRecDepth 20000 in
theorem ki_X0_init : Cond.instanceMethod yX0_init ∈ TB := inT1 (List.mem_of_getElem? (i := 98) rfl) rfl
set_option maxRecDepth 20000 in
theorem kc_X0_init : Cond.code yX0_init cX0_init 2 none ∈ TB := inT1 (List.mem_of_getElem? (i := 99) rfl) rfl
set_option maxRecDepth 20000 in
theorem kl_X0_3 : Cond.methodLink RX0 3 objectInit ∈ TB := inT1 (List.mem_of_getElem? (i := 100) rfl) rfl
set_option maxRecDepth 20000 in
theorem kf_X0_18 : Cond.fieldLink RX0 18 "LoafLetters$CodeSearch" "reach" "LLoafLetters$Reach;" ∈ TB := inT1 (List.mem_of_getElem? (i := 101) rfl) rfl
set_option maxRecDepth 20000 in
theorem kf_X0_9 : Cond.fieldLink RX0 9 "LoafLetters$CodeSearch" "chosen" "[I" ∈ TB := inT1 (List.mem_of_getElem? (i := 102) rfl) rfl
set_option maxRecDepth 20000 in
theorem kf_X0_15 : Cond.fieldLink RX0 15 "LoafLetters$CodeSearch" "best" "[I" ∈ TB := inT1 (List.mem_of_getElem? (i := 103) rfl) rfl
set_option maxRecDepth 20000 in
theorem kf_X0_28 : Cond.fieldLink RX0 28 "LoafLetters$CodeSearch" "wanted" "I" ∈ TB := inT1 (List.mem_of_getElem? (i := 104) rfl) rfl
set_option maxRecDepth 20000 in
theorem kf_X0_35 : Cond.fieldLink RX0 35 "LoafLetters$CodeSearch" "least" "I" ∈ TB := inT1 (List.mem_of_getElem? (i := 105) rfl) rfl
set_option maxRecDepth 20000 in
theorem kk_X9_58 : Cond.classLink RX9 58 RX8 ∈ TB := inT1 (List.mem_of_getElem? (i := 117) rfl) rfl
set_option maxRecDepth 20000 in
theorem kb_X8 : Cond.instantiable RX8 10 ∈ TB := inT1 (List.mem_of_getElem? (i := 118) rfl) rfl
set_option maxRecDepth 20000 in
theorem kl_X9_60 : Cond.methodLink RX9 60 yX8_init ∈ TB := inT1 (List.mem_of_getElem? (i := 119) rfl) rfl
set_option maxRecDepth 20000 in
theorem ki_X8_init : Cond.instanceMethod yX8_init ∈ TB := inT1 (List.mem_of_getElem? (i := 120) rfl) rfl
set_option maxRecDepth 20000 in
theorem kc_X8_init : Cond.code yX8_init cX8_init 1 none ∈ TB := inT1 (List.mem_of_getElem? (i := 121) rfl) rfl
set_option maxRecDepth 20000 in
theorem kl_X8_3 : Cond.methodLink RX8 3 objectInit ∈ TB := inT1 (List.mem_of_getElem? (i := 122) rfl) rfl
set_option maxRecDepth 20000 in
theorem kf_X8_11 : Cond.fieldLink RX8 11 "LoafLetters$Valley" "signs" "[I" ∈ TB := inT1 (List.mem_of_getElem? (i := 123) rfl) rfl
set_option maxRecDepth 20000 in
theorem kf_X8_15 : Cond.fieldLink RX8 15 "LoafLetters$Valley" "worths" "[I" ∈ TB := inT1 (List.mem_of_getElem? (i := 124) rfl) rfl
set_option maxRecDepth 20000 in
theorem kf_X8_18 : Cond.fieldLink RX8 18 "LoafLetters$Valley" "hungers" "[I" ∈ TB := inT1 (List.mem_of_getElem? (i := 125) rfl) rfl
set_option maxRecDepth 20000 in
theorem kf_X8_21 : Cond.fieldLink RX8 21 "LoafLetters$Valley" "miles" "[I" ∈ TB := inT1 (List.mem_of_getElem? (i := 126) rfl) rfl
set_option maxRecDepth 20000 in
theorem kf_X8_24 : Cond.fieldLink RX8 24 "LoafLetters$Valley" "knowledge" "[I" ∈ TB := inT1 (List.mem_of_getElem? (i := 127) rfl) rfl
set_option maxRecDepth 20000 in
theorem kf_X8_34 : Cond.fieldLink RX8 34 "LoafLetters$Valley" "words" "I" ∈ TB := inT1 (List.mem_of_getElem? (i := 128) rfl) rfl
set_option maxRecDepth 20000 in
theorem kf_X8_37 : Cond.fieldLink RX8 37 "LoafLetters$Valley" "carriers" "I" ∈ TB := inT1 (List.mem_of_getElem? (i := 129) rfl) rfl
set_option maxRecDepth 20000 in
theorem kf_X8_40 : Cond.fieldLink RX8 40 "LoafLetters$Valley" "bakers" "I" ∈ TB := inT1 (List.mem_of_getElem? (i := 130) rfl) rfl
set_option maxRecDepth 20000 in
theorem kf_X8_27 : Cond.fieldLink RX8 27 "LoafLetters$Valley" "birds" "I" ∈ TB := inT1 (List.mem_of_getElem? (i := 131) rfl) rfl
set_option maxRecDepth 20000 in
theorem kf_X8_31 : Cond.fieldLink RX8 31 "LoafLetters$Valley" "mould" "I" ∈ TB := inT1 (List.mem_of_getElem? (i := 132) rfl) rfl
set_option maxRecDepth 20000 in
theorem kl_X9_68 : Cond.methodLink RX9 68 yX8_addWord ∈ TB := inT1 (List.mem_of_getElem? (i := 154) rfl) rfl
set_option maxRecDepth 20000 in
theorem ki_X8_addWord : Cond.instanceMethod yX8_addWord ∈ TB := inT1 (List.mem_of_getElem? (i := 155) rfl) rfl
set_option maxRecDepth 20000 in
theorem ke_X8_addWord : Cond.selects RX8 yX8_addWord yX8_addWord ∈ TB := inT1 (List.mem_of_getElem? (i := 156) rfl) rfl
set_option maxRecDepth 20000 in
theorem kc_X8_addWord : Cond.code yX8_addWord cX8_addWord 6 (some .boolean) ∈ TB := inT1 (List.mem_of_getElem? (i := 157) rfl) rfl
set_option maxRecDepth 20000 in
theorem ks_X9_within : Cond.static yX9_within ∈ TB := inT1 (List.mem_of_getElem? (i := 159) rfl) rfl
set_option maxRecDepth 20000 in
theorem kc_X9_within : Cond.code yX9_within cX9_within 3 (some .boolean) ∈ TB := inT1 (List.mem_of_getElem? (i := 160) rfl) rfl
set_option maxRecDepth 20000 in
theorem kl_X8_47 : Cond.methodLink RX8 47 yX6_of ∈ TB := inT1 (List.mem_of_getElem? (i := 161) rfl) rfl
set_option maxRecDepth 20000 in
theorem ks_X6_of : Cond.static yX6_of ∈ TB := inT1 (List.mem_of_getElem? (i := 162) rfl) rfl
set_option maxRecDepth 20000 in
theorem kc_X6_of : Cond.code yX6_of cX6_of 3 (some .int) ∈ TB := inT1 (List.mem_of_getElem? (i := 163) rfl) rfl
set_option maxRecDepth 20000 in
theorem kl_X8_53 : Cond.methodLink RX8 53 yX8_readAs ∈ TB := inT1 (List.mem_of_getElem? (i := 164) rfl) rfl
set_option maxRecDepth 20000 in
theorem ki_X8_readAs : Cond.instanceMethod yX8_readAs ∈ TB := inT1 (List.mem_of_getElem? (i := 165) rfl) rfl
set_option maxRecDepth 20000 in
theorem ke_X8_readAs : Cond.selects RX8 yX8_readAs yX8_readAs ∈ TB := inT1 (List.mem_of_getElem? (i := 166) rfl) rfl
set_option maxRecDepth 20000 in
theorem kc_X8_readAs : Cond.code yX8_readAs cX8_readAs 3 (some .int) ∈ TB := inT1 (List.mem_of_getElem? (i := 167) rfl) rfl
set_option maxRecDepth 20000 in
theorem kl_X8_61 : Cond.methodLink RX8 61 yX8_signOf ∈ TB := inT1 (List.mem_of_getElem? (i := 168) rfl) rfl
set_option maxRecDepth 20000 in
theorem ki_X8_signOf : Cond.instanceMethod yX8_signOf ∈ TB := inT1 (List.mem_of_getElem? (i := 169) rfl) rfl
set_option maxRecDepth 20000 in
theorem ke_X8_signOf : Cond.selects RX8 yX8_signOf yX8_signOf ∈ TB := inT1 (List.mem_of_getElem? (i := 170) rfl) rfl
set_option maxRecDepth 20000 in
theorem kc_X8_signOf : Cond.code yX8_signOf cX8_signOf 2 (some .int) ∈ TB := inT1 (List.mem_of_getElem? (i := 171) rfl) rfl
set_option maxRecDepth 20000 in
theorem ks_X9_at : Cond.static yX9_at ∈ TB := inT1 (List.mem_of_getElem? (i := 173) rfl) rfl
set_option maxRecDepth 20000 in
theorem kc_X9_at : Cond.code yX9_at cX9_at 2 (some .int) ∈ TB := inT1 (List.mem_of_getElem? (i := 174) rfl) rfl
set_option maxRecDepth 20000 in
theorem kf_X9_10 : Cond.fieldLink RX9 10 "LoafLetters" "text" "LLoafLetters$Text;" ∈ TB := inT1 (List.mem_of_getElem? (i := 175) rfl) rfl
set_option maxRecDepth 20000 in
theorem kf_X9_19 : Cond.fieldLink RX9 19 "LoafLetters" "reader" "LLoafLetters$Reader;" ∈ TB := inT1 (List.mem_of_getElem? (i := 176) rfl) rfl
set_option maxRecDepth 20000 in
theorem kf_X9_26 : Cond.fieldLink RX9 26 "LoafLetters" "larder" "LLoafLetters$Larder;" ∈ TB := inT1 (List.mem_of_getElem? (i := 177) rfl) rfl
set_option maxRecDepth 20000 in
theorem kf_X9_35 : Cond.fieldLink RX9 35 "LoafLetters" "undoable" "LLoafLetters$Shelf;" ∈ TB := inT1 (List.mem_of_getElem? (i := 178) rfl) rfl
set_option maxRecDepth 20000 in
theorem kf_X9_39 : Cond.fieldLink RX9 39 "LoafLetters" "kept" "LLoafLetters$Shelf;" ∈ TB := inT1 (List.mem_of_getElem? (i := 179) rfl) rfl
set_option maxRecDepth 20000 in
theorem kf_X9_45 : Cond.fieldLink RX9 45 "LoafLetters" "reach" "LLoafLetters$Reach;" ∈ TB := inT1 (List.mem_of_getElem? (i := 180) rfl) rfl
set_option maxRecDepth 20000 in
theorem kf_X9_54 : Cond.fieldLink RX9 54 "LoafLetters" "search" "LLoafLetters$CodeSearch;" ∈ TB := inT1 (List.mem_of_getElem? (i := 181) rfl) rfl
set_option maxRecDepth 20000 in
theorem kf_X9_61 : Cond.fieldLink RX9 61 "LoafLetters" "laid" "LLoafLetters$Valley;" ∈ TB := inT1 (List.mem_of_getElem? (i := 182) rfl) rfl
set_option maxRecDepth 20000 in
theorem kf_X9_65 : Cond.fieldLink RX9 65 "LoafLetters" "draft" "LLoafLetters$Valley;" ∈ TB := inT1 (List.mem_of_getElem? (i := 183) rfl) rfl
set_option maxRecDepth 20000 in
theorem kl_L_15 : Cond.methodLink RL 15 yX9_write ∈ TB := inT1 (List.mem_of_getElem? (i := 203) rfl) rfl
set_option maxRecDepth 20000 in
theorem ki_X9_write : Cond.instanceMethod yX9_write ∈ TB := inT1 (List.mem_of_getElem? (i := 204) rfl) rfl
set_option maxRecDepth 20000 in
theorem ke_X9_write : Cond.selects RX9 yX9_write yX9_write ∈ TB := inT1 (List.mem_of_getElem? (i := 205) rfl) rfl
set_option maxRecDepth 20000 in
theorem kc_X9_write : Cond.code yX9_write cX9_write 4 (some .int) ∈ TB := inT1 (List.mem_of_getElem? (i := 206) rfl) rfl
set_option maxRecDepth 20000 in
theorem kl_X9_72 : Cond.methodLink RX9 72 yX9_within ∈ TB := inT1 (List.mem_of_getElem? (i := 207) rfl) rfl
set_option maxRecDepth 20000 in
theorem kl_X9_76 : Cond.methodLink RX9 76 yX7_hasRoom ∈ TB := inT1 (List.mem_of_getElem? (i := 208) rfl) rfl
set_option maxRecDepth 20000 in
theorem ki_X7_hasRoom : Cond.instanceMethod yX7_hasRoom ∈ TB := inT1 (List.mem_of_getElem? (i := 209) rfl) rfl
set_option maxRecDepth 20000 in
theorem ke_X7_hasRoom : Cond.selects RX7 yX7_hasRoom yX7_hasRoom ∈ TB := inT1 (List.mem_of_getElem? (i := 210) rfl) rfl
set_option maxRecDepth 20000 in
theorem kc_X7_hasRoom : Cond.code yX7_hasRoom cX7_hasRoom 2 (some .boolean) ∈ TB := inT1 (List.mem_of_getElem? (i := 211) rfl) rfl
set_option maxRecDepth 20000 in
theorem kl_X9_80 : Cond.methodLink RX9 80 yX7_append ∈ TB := inT1 (List.mem_of_getElem? (i := 212) rfl) rfl
set_option maxRecDepth 20000 in
theorem ki_X7_append : Cond.instanceMethod yX7_append ∈ TB := inT1 (List.mem_of_getElem? (i := 213) rfl) rfl
set_option maxRecDepth 20000 in
theorem ke_X7_append : Cond.selects RX7 yX7_append yX7_append ∈ TB := inT1 (List.mem_of_getElem? (i := 214) rfl) rfl
set_option maxRecDepth 20000 in
theorem kc_X7_append : Cond.code yX7_append cX7_append 5 none ∈ TB := inT1 (List.mem_of_getElem? (i := 215) rfl) rfl
set_option maxRecDepth 20000 in
theorem kl_X9_84 : Cond.methodLink RX9 84 yX7_length ∈ TB := inT1 (List.mem_of_getElem? (i := 216) rfl) rfl
set_option maxRecDepth 20000 in
theorem ki_X7_length : Cond.instanceMethod yX7_length ∈ TB := inT1 (List.mem_of_getElem? (i := 217) rfl) rfl
set_option maxRecDepth 20000 in
theorem ke_X7_length : Cond.selects RX7 yX7_length yX7_length ∈ TB := inT1 (List.mem_of_getElem? (i := 218) rfl) rfl
set_option maxRecDepth 20000 in
theorem kc_X7_length : Cond.code yX7_length cX7_length 1 (some .int) ∈ TB := inT1 (List.mem_of_getElem? (i := 219) rfl) rfl
set_option maxRecDepth 20000 in
theorem kl_L_20 : Cond.methodLink RL 20 yX9_wipe ∈ TB := inT1 (List.mem_of_getElem? (i := 220) rfl) rfl
set_option maxRecDepth 20000 in
theorem ki_X9_wipe : Cond.instanceMethod yX9_wipe ∈ TB := inT1 (List.mem_of_getElem? (i := 221) rfl) rfl
set_option maxRecDepth 20000 in
theorem ke_X9_wipe : Cond.selects RX9 yX9_wipe yX9_wipe ∈ TB := inT1 (List.mem_of_getElem? (i := 222) rfl) rfl
set_option maxRecDepth 20000 in
theorem kc_X9_wipe : Cond.code yX9_wipe cX9_wipe 2 (some .int) ∈ TB := inT1 (List.mem_of_getElem? (i := 223) rfl) rfl
set_option maxRecDepth 20000 in
theorem kl_X9_88 : Cond.methodLink RX9 88 yX7_clear ∈ TB := inT1 (List.mem_of_getElem? (i := 224) rfl) rfl
set_option maxRecDepth 20000 in
theorem ki_X7_clear : Cond.instanceMethod yX7_clear ∈ TB := inT1 (List.mem_of_getElem? (i := 225) rfl) rfl
set_option maxRecDepth 20000 in
theorem ke_X7_clear : Cond.selects RX7 yX7_clear yX7_clear ∈ TB := inT1 (List.mem_of_getElem? (i := 226) rfl) rfl
set_option maxRecDepth 20000 in
theorem kc_X7_clear : Cond.code yX7_clear cX7_clear 1 none ∈ TB := inT1 (List.mem_of_getElem? (i := 227) rfl) rfl
set_option maxRecDepth 20000 in
theorem kl_L_25 : Cond.methodLink RL 25 yX9_fault ∈ TB := inT1 (List.mem_of_getElem? (i := 228) rfl) rfl
set_option maxRecDepth 20000 in
theorem ki_X9_fault : Cond.instanceMethod yX9_fault ∈ TB := inT1 (List.mem_of_getElem? (i := 229) rfl) rfl
set_option maxRecDepth 20000 in
theorem ke_X9_fault : Cond.selects RX9 yX9_fault yX9_fault ∈ TB := inT1 (List.mem_of_getElem? (i := 230) rfl) rfl
set_option maxRecDepth 20000 in
theorem kc_X9_fault : Cond.code yX9_fault cX9_fault 1 (some .int) ∈ TB := inT1 (List.mem_of_getElem? (i := 231) rfl) rfl
set_option maxRecDepth 20000 in
theorem kl_X9_91 : Cond.methodLink RX9 91 yX4_firstFault ∈ TB := inT1 (List.mem_of_getElem? (i := 232) rfl) rfl
set_option maxRecDepth 20000 in
theorem ki_X4_firstFault : Cond.instanceMethod yX4_firstFault ∈ TB := inT1 (List.mem_of_getElem? (i := 233) rfl) rfl
set_option maxRecDepth 20000 in
theorem ke_X4_firstFault : Cond.selects RX4 yX4_firstFault yX4_firstFault ∈ TB := inT1 (List.mem_of_getElem? (i := 234) rfl) rfl
set_option maxRecDepth 20000 in
theorem kc_X4_firstFault : Cond.code yX4_firstFault cX4_firstFault 5 (some .int) ∈ TB := inT1 (List.mem_of_getElem? (i := 235) rfl) rfl
set_option maxRecDepth 20000 in
theorem kl_X4_15 : Cond.methodLink RX4 15 yX8_clear ∈ TB := inT1 (List.mem_of_getElem? (i := 236) rfl) rfl
set_option maxRecDepth 20000 in
theorem ki_X8_clear : Cond.instanceMethod yX8_clear ∈ TB := inT1 (List.mem_of_getElem? (i := 237) rfl) rfl
set_option maxRecDepth 20000 in
theorem ke_X8_clear : Cond.selects RX8 yX8_clear yX8_clear ∈ TB := inT1 (List.mem_of_getElem? (i := 238) rfl) rfl
set_option maxRecDepth 20000 in
theorem kc_X8_clear : Cond.code yX8_clear cX8_clear 1 none ∈ TB := inT1 (List.mem_of_getElem? (i := 239) rfl) rfl
set_option maxRecDepth 20000 in
theorem kl_X4_26 : Cond.methodLink RX4 26 yX7_length ∈ TB := inT2 (List.mem_of_getElem? (i := 0) rfl) rfl
set_option maxRecDepth 20000 in
theorem kl_X4_30 : Cond.methodLink RX4 30 yX4_readItem ∈ TB := inT2 (List.mem_of_getElem? (i := 1) rfl) rfl
set_option maxRecDepth 20000 in
theorem ki_X4_readItem : Cond.instanceMethod yX4_readItem ∈ TB := inT2 (List.mem_of_getElem? (i := 3) rfl) rfl
set_option maxRecDepth 20000 in
theorem kc_X4_readItem : Cond.code yX4_readItem cX4_readItem 4 (some .boolean) ∈ TB := inT2 (List.mem_of_getElem? (i := 4) rfl) rfl
set_option maxRecDepth 20000 in
theorem kl_X4_34 : Cond.methodLink RX4 34 yX7_byteAt ∈ TB := inT2 (List.mem_of_getElem? (i := 5) rfl) rfl
set_option maxRecDepth 20000 in
theorem ki_X7_byteAt : Cond.instanceMethod yX7_byteAt ∈ TB := inT2 (List.mem_of_getElem? (i := 6) rfl) rfl
set_option maxRecDepth 20000 in
theorem ke_X7_byteAt : Cond.selects RX7 yX7_byteAt yX7_byteAt ∈ TB := inT2 (List.mem_of_getElem? (i := 7) rfl) rfl
set_option maxRecDepth 20000 in
theorem kc_X7_byteAt : Cond.code yX7_byteAt cX7_byteAt 2 (some .int) ∈ TB := inT2 (List.mem_of_getElem? (i := 8) rfl) rfl
set_option maxRecDepth 20000 in
theorem kl_X4_38 : Cond.methodLink RX4 38 yX4_readNumbers ∈ TB := inT2 (List.mem_of_getElem? (i := 9) rfl) rfl
set_option maxRecDepth 20000 in
theorem ki_X4_readNumbers : Cond.instanceMethod yX4_readNumbers ∈ TB := inT2 (List.mem_of_getElem? (i := 11) rfl) rfl
set_option maxRecDepth 20000 in
theorem kc_X4_readNumbers : Cond.code yX4_readNumbers cX4_readNumbers 6 (some .boolean) ∈ TB := inT2 (List.mem_of_getElem? (i := 12) rfl) rfl
set_option maxRecDepth 20000 in
theorem kl_X4_57 : Cond.methodLink RX4 57 yX4_readNumber ∈ TB := inT2 (List.mem_of_getElem? (i := 13) rfl) rfl
set_option maxRecDepth 20000 in
theorem ki_X4_readNumber : Cond.instanceMethod yX4_readNumber ∈ TB := inT2 (List.mem_of_getElem? (i := 15) rfl) rfl
set_option maxRecDepth 20000 in
theorem kc_X4_readNumber : Cond.code yX4_readNumber cX4_readNumber 4 (some .int) ∈ TB := inT2 (List.mem_of_getElem? (i := 16) rfl) rfl
set_option maxRecDepth 20000 in
theorem kl_X4_61 : Cond.methodLink RX4 61 yX4_isFigure ∈ TB := inT2 (List.mem_of_getElem? (i := 17) rfl) rfl
set_option maxRecDepth 20000 in
theorem ks_X4_isFigure : Cond.static yX4_isFigure ∈ TB := inT2 (List.mem_of_getElem? (i := 18) rfl) rfl
set_option maxRecDepth 20000 in
theorem kc_X4_isFigure : Cond.code yX4_isFigure cX4_isFigure 1 (some .boolean) ∈ TB := inT2 (List.mem_of_getElem? (i := 19) rfl) rfl
set_option maxRecDepth 20000 in
theorem kl_X4_42 : Cond.methodLink RX4 42 yX8_addWord ∈ TB := inT2 (List.mem_of_getElem? (i := 21) rfl) rfl
set_option maxRecDepth 20000 in
theorem kl_X4_46 : Cond.methodLink RX4 46 yX8_setLosses ∈ TB := inT2 (List.mem_of_getElem? (i := 22) rfl) rfl
set_option maxRecDepth 20000 in
theorem ki_X8_setLosses : Cond.instanceMethod yX8_setLosses ∈ TB := inT2 (List.mem_of_getElem? (i := 23) rfl) rfl
set_option maxRecDepth 20000 in
theorem ke_X8_setLosses : Cond.selects RX8 yX8_setLosses yX8_setLosses ∈ TB := inT2 (List.mem_of_getElem? (i := 24) rfl) rfl
set_option maxRecDepth 20000 in
theorem kc_X8_setLosses : Cond.code yX8_setLosses cX8_setLosses 3 (some .boolean) ∈ TB := inT2 (List.mem_of_getElem? (i := 25) rfl) rfl
set_option maxRecDepth 20000 in
theorem kl_X4_50 : Cond.methodLink RX4 50 yX8_addCarrier ∈ TB := inT2 (List.mem_of_getElem? (i := 26) rfl) rfl
set_option maxRecDepth 20000 in
theorem ki_X8_addCarrier : Cond.instanceMethod yX8_addCarrier ∈ TB := inT2 (List.mem_of_getElem? (i := 27) rfl) rfl
set_option maxRecDepth 20000 in
theorem ke_X8_addCarrier : Cond.selects RX8 yX8_addCarrier yX8_addCarrier ∈ TB := inT2 (List.mem_of_getElem? (i := 28) rfl) rfl
set_option maxRecDepth 20000 in
theorem kc_X8_addCarrier : Cond.code yX8_addCarrier cX8_addCarrier 3 (some .boolean) ∈ TB := inT2 (List.mem_of_getElem? (i := 29) rfl) rfl
set_option maxRecDepth 20000 in
theorem kl_X4_53 : Cond.methodLink RX4 53 yX8_addBaker ∈ TB := inT2 (List.mem_of_getElem? (i := 30) rfl) rfl
set_option maxRecDepth 20000 in
theorem ki_X8_addBaker : Cond.instanceMethod yX8_addBaker ∈ TB := inT2 (List.mem_of_getElem? (i := 31) rfl) rfl
set_option maxRecDepth 20000 in
theorem ke_X8_addBaker : Cond.selects RX8 yX8_addBaker yX8_addBaker ∈ TB := inT2 (List.mem_of_getElem? (i := 32) rfl) rfl
set_option maxRecDepth 20000 in
theorem kc_X8_addBaker : Cond.code yX8_addBaker cX8_addBaker 2 (some .boolean) ∈ TB := inT2 (List.mem_of_getElem? (i := 33) rfl) rfl
set_option maxRecDepth 20000 in
theorem kl_L_29 : Cond.methodLink RL 29 yX9_lay ∈ TB := inT2 (List.mem_of_getElem? (i := 34) rfl) rfl
set_option maxRecDepth 20000 in
theorem ki_X9_lay : Cond.instanceMethod yX9_lay ∈ TB := inT2 (List.mem_of_getElem? (i := 35) rfl) rfl
set_option maxRecDepth 20000 in
theorem ke_X9_lay : Cond.selects RX9 yX9_lay yX9_lay ∈ TB := inT2 (List.mem_of_getElem? (i := 36) rfl) rfl
set_option maxRecDepth 20000 in
theorem kc_X9_lay : Cond.code yX9_lay cX9_lay 2 (some .int) ∈ TB := inT2 (List.mem_of_getElem? (i := 37) rfl) rfl
set_option maxRecDepth 20000 in
theorem kl_X9_95 : Cond.methodLink RX9 95 yX8_words ∈ TB := inT2 (List.mem_of_getElem? (i := 38) rfl) rfl
set_option maxRecDepth 20000 in
theorem ki_X8_words : Cond.instanceMethod yX8_words ∈ TB := inT2 (List.mem_of_getElem? (i := 39) rfl) rfl
set_option maxRecDepth 20000 in
theorem ke_X8_words : Cond.selects RX8 yX8_words yX8_words ∈ TB := inT2 (List.mem_of_getElem? (i := 40) rfl) rfl
set_option maxRecDepth 20000 in
theorem kc_X8_words : Cond.code yX8_words cX8_words 1 (some .int) ∈ TB := inT2 (List.mem_of_getElem? (i := 41) rfl) rfl
set_option maxRecDepth 20000 in
theorem kl_X9_98 : Cond.methodLink RX9 98 yX1_clear ∈ TB := inT2 (List.mem_of_getElem? (i := 42) rfl) rfl
set_option maxRecDepth 20000 in
theorem ki_X1_clear : Cond.instanceMethod yX1_clear ∈ TB := inT2 (List.mem_of_getElem? (i := 43) rfl) rfl
set_option maxRecDepth 20000 in
theorem ke_X1_clear : Cond.selects RX1 yX1_clear yX1_clear ∈ TB := inT2 (List.mem_of_getElem? (i := 44) rfl) rfl
set_option maxRecDepth 20000 in
theorem kc_X1_clear : Cond.code yX1_clear cX1_clear 1 none ∈ TB := inT2 (List.mem_of_getElem? (i := 45) rfl) rfl
set_option maxRecDepth 20000 in
theorem kl_X9_99 : Cond.methodLink RX9 99 yX5_clear ∈ TB := inT2 (List.mem_of_getElem? (i := 46) rfl) rfl
set_option maxRecDepth 20000 in
theorem ki_X5_clear : Cond.instanceMethod yX5_clear ∈ TB := inT2 (List.mem_of_getElem? (i := 47) rfl) rfl
set_option maxRecDepth 20000 in
theorem ke_X5_clear : Cond.selects RX5 yX5_clear yX5_clear ∈ TB := inT2 (List.mem_of_getElem? (i := 48) rfl) rfl
set_option maxRecDepth 20000 in
theorem kc_X5_clear : Cond.code yX5_clear cX5_clear 1 none ∈ TB := inT2 (List.mem_of_getElem? (i := 49) rfl) rfl
set_option maxRecDepth 20000 in
theorem kl_L_33 : Cond.methodLink RL 33 yX9_word ∈ TB := inT2 (List.mem_of_getElem? (i := 50) rfl) rfl
set_option maxRecDepth 20000 in
theorem ki_X9_word : Cond.instanceMethod yX9_word ∈ TB := inT2 (List.mem_of_getElem? (i := 51) rfl) rfl
set_option maxRecDepth 20000 in
theorem ke_X9_word : Cond.selects RX9 yX9_word yX9_word ∈ TB := inT2 (List.mem_of_getElem? (i := 52) rfl) rfl
set_option maxRecDepth 20000 in
theorem kc_X9_word : Cond.code yX9_word cX9_word 3 (some .int) ∈ TB := inT2 (List.mem_of_getElem? (i := 53) rfl) rfl
set_option maxRecDepth 20000 in
theorem kl_X9_100 : Cond.methodLink RX9 100 yX9_isWord ∈ TB := inT2 (List.mem_of_getElem? (i := 54) rfl) rfl
set_option maxRecDepth 20000 in
theorem ki_X9_isWord : Cond.instanceMethod yX9_isWord ∈ TB := inT2 (List.mem_of_getElem? (i := 56) rfl) rfl
set_option maxRecDepth 20000 in
theorem kc_X9_isWord : Cond.code yX9_isWord cX9_isWord 2 (some .boolean) ∈ TB := inT2 (List.mem_of_getElem? (i := 57) rfl) rfl
set_option maxRecDepth 20000 in
theorem kl_X9_103 : Cond.methodLink RX9 103 yX8_signOf ∈ TB := inT2 (List.mem_of_getElem? (i := 58) rfl) rfl
set_option maxRecDepth 20000 in
theorem kl_X9_107 : Cond.methodLink RX9 107 yX8_worthOf ∈ TB := inT2 (List.mem_of_getElem? (i := 59) rfl) rfl
set_option maxRecDepth 20000 in
theorem ki_X8_worthOf : Cond.instanceMethod yX8_worthOf ∈ TB := inT2 (List.mem_of_getElem? (i := 60) rfl) rfl
set_option maxRecDepth 20000 in
theorem ke_X8_worthOf : Cond.selects RX8 yX8_worthOf yX8_worthOf ∈ TB := inT2 (List.mem_of_getElem? (i := 61) rfl) rfl
set_option maxRecDepth 20000 in
theorem kc_X8_worthOf : Cond.code yX8_worthOf cX8_worthOf 2 (some .int) ∈ TB := inT2 (List.mem_of_getElem? (i := 62) rfl) rfl
set_option maxRecDepth 20000 in
theorem kl_X9_110 : Cond.methodLink RX9 110 yX6_flour ∈ TB := inT2 (List.mem_of_getElem? (i := 63) rfl) rfl
set_option maxRecDepth 20000 in
theorem ks_X6_flour : Cond.static yX6_flour ∈ TB := inT2 (List.mem_of_getElem? (i := 64) rfl) rfl
set_option maxRecDepth 20000 in
theorem kc_X6_flour : Cond.code yX6_flour cX6_flour 1 (some .int) ∈ TB := inT2 (List.mem_of_getElem? (i := 65) rfl) rfl
set_option maxRecDepth 20000 in
theorem kl_X6_7 : Cond.methodLink RX6 7 yX6_seeds ∈ TB := inT2 (List.mem_of_getElem? (i := 66) rfl) rfl
set_option maxRecDepth 20000 in
theorem ks_X6_seeds : Cond.static yX6_seeds ∈ TB := inT2 (List.mem_of_getElem? (i := 67) rfl) rfl
set_option maxRecDepth 20000 in
theorem kc_X6_seeds : Cond.code yX6_seeds cX6_seeds 1 (some .int) ∈ TB := inT2 (List.mem_of_getElem? (i := 68) rfl) rfl
set_option maxRecDepth 20000 in
theorem kl_X6_13 : Cond.methodLink RX6 13 yX6_cuts ∈ TB := inT2 (List.mem_of_getElem? (i := 69) rfl) rfl
set_option maxRecDepth 20000 in
theorem ks_X6_cuts : Cond.static yX6_cuts ∈ TB := inT2 (List.mem_of_getElem? (i := 70) rfl) rfl
set_option maxRecDepth 20000 in
theorem kc_X6_cuts : Cond.code yX6_cuts cX6_cuts 1 (some .int) ∈ TB := inT2 (List.mem_of_getElem? (i := 71) rfl) rfl
set_option maxRecDepth 20000 in
theorem kl_X6_16 : Cond.methodLink RX6 16 yX6_filling ∈ TB := inT2 (List.mem_of_getElem? (i := 72) rfl) rfl
set_option maxRecDepth 20000 in
theorem ks_X6_filling : Cond.static yX6_filling ∈ TB := inT2 (List.mem_of_getElem? (i := 73) rfl) rfl
set_option maxRecDepth 20000 in
theorem kc_X6_filling : Cond.code yX6_filling cX6_filling 1 (some .int) ∈ TB := inT2 (List.mem_of_getElem? (i := 74) rfl) rfl
set_option maxRecDepth 20000 in
theorem kl_L_38 : Cond.methodLink RL 38 yX9_bake ∈ TB := inT2 (List.mem_of_getElem? (i := 75) rfl) rfl
set_option maxRecDepth 20000 in
theorem ki_X9_bake : Cond.instanceMethod yX9_bake ∈ TB := inT2 (List.mem_of_getElem? (i := 76) rfl) rfl
set_option maxRecDepth 20000 in
theorem ke_X9_bake : Cond.selects RX9 yX9_bake yX9_bake ∈ TB := inT2 (List.mem_of_getElem? (i := 77) rfl) rfl
set_option maxRecDepth 20000 in
theorem kc_X9_bake : Cond.code yX9_bake cX9_bake 4 (some .int) ∈ TB := inT2 (List.mem_of_getElem? (i := 78) rfl) rfl
set_option maxRecDepth 20000 in
theorem kl_X9_115 : Cond.methodLink RX9 115 yX1_isFull ∈ TB := inT2 (List.mem_of_getElem? (i := 79) rfl) rfl
set_option maxRecDepth 20000 in
theorem ki_X1_isFull : Cond.instanceMethod yX1_isFull ∈ TB := inT2 (List.mem_of_getElem? (i := 80) rfl) rfl
set_option maxRecDepth 20000 in
theorem ke_X1_isFull : Cond.selects RX1 yX1_isFull yX1_isFull ∈ TB := inT2 (List.mem_of_getElem? (i := 81) rfl) rfl
set_option maxRecDepth 20000 in
theorem kc_X1_isFull : Cond.code yX1_isFull cX1_isFull 1 (some .boolean) ∈ TB := inT2 (List.mem_of_getElem? (i := 82) rfl) rfl
set_option maxRecDepth 20000 in
theorem kl_X1_13 : Cond.methodLink RX1 13 yX1_size ∈ TB := inT2 (List.mem_of_getElem? (i := 83) rfl) rfl
set_option maxRecDepth 20000 in
theorem ki_X1_size : Cond.instanceMethod yX1_size ∈ TB := inT2 (List.mem_of_getElem? (i := 84) rfl) rfl
set_option maxRecDepth 20000 in
theorem ke_X1_size : Cond.selects RX1 yX1_size yX1_size ∈ TB := inT2 (List.mem_of_getElem? (i := 85) rfl) rfl
set_option maxRecDepth 20000 in
theorem kc_X1_size : Cond.code yX1_size cX1_size 1 (some .int) ∈ TB := inT2 (List.mem_of_getElem? (i := 86) rfl) rfl
set_option maxRecDepth 20000 in
theorem kl_X9_119 : Cond.methodLink RX9 119 yX5_push ∈ TB := inT2 (List.mem_of_getElem? (i := 87) rfl) rfl
set_option maxRecDepth 20000 in
theorem ki_X5_push : Cond.instanceMethod yX5_push ∈ TB := inT2 (List.mem_of_getElem? (i := 88) rfl) rfl
set_option maxRecDepth 20000 in
theorem ke_X5_push : Cond.selects RX5 yX5_push yX5_push ∈ TB := inT2 (List.mem_of_getElem? (i := 89) rfl) rfl
set_option maxRecDepth 20000 in
theorem kc_X5_push : Cond.code yX5_push cX5_push 2 none ∈ TB := inT2 (List.mem_of_getElem? (i := 90) rfl) rfl
set_option maxRecDepth 20000 in
theorem kl_X5_28 : Cond.methodLink RX5 28 yX5_isFull ∈ TB := inT2 (List.mem_of_getElem? (i := 91) rfl) rfl
set_option maxRecDepth 20000 in
theorem ki_X5_isFull : Cond.instanceMethod yX5_isFull ∈ TB := inT2 (List.mem_of_getElem? (i := 92) rfl) rfl
set_option maxRecDepth 20000 in
theorem ke_X5_isFull : Cond.selects RX5 yX5_isFull yX5_isFull ∈ TB := inT2 (List.mem_of_getElem? (i := 93) rfl) rfl
set_option maxRecDepth 20000 in
theorem kc_X5_isFull : Cond.code yX5_isFull cX5_isFull 1 (some .boolean) ∈ TB := inT2 (List.mem_of_getElem? (i := 94) rfl) rfl
set_option maxRecDepth 20000 in
theorem kl_X5_32 : Cond.methodLink RX5 32 yX5_dropOldest ∈ TB := inT2 (List.mem_of_getElem? (i := 95) rfl) rfl
set_option maxRecDepth 20000 in
theorem ki_X5_dropOldest : Cond.instanceMethod yX5_dropOldest ∈ TB := inT2 (List.mem_of_getElem? (i := 97) rfl) rfl
set_option maxRecDepth 20000 in
theorem kc_X5_dropOldest : Cond.code yX5_dropOldest cX5_dropOldest 2 none ∈ TB := inT2 (List.mem_of_getElem? (i := 98) rfl) rfl
set_option maxRecDepth 20000 in
theorem kl_X5_42 : Cond.methodLink RX5 42 arraycopyName ∈ TB := inT2 (List.mem_of_getElem? (i := 99) rfl) rfl
set_option maxRecDepth 20000 in
theorem ks_arraycopyName : Cond.static arraycopyName ∈ TB := inT2 (List.mem_of_getElem? (i := 100) rfl) rfl
set_option maxRecDepth 20000 in
theorem ka_arraycopyName : Cond.native arraycopyName ∈ TB := inT2 (List.mem_of_getElem? (i := 101) rfl) rfl
set_option maxRecDepth 20000 in
theorem kl_X5_35 : Cond.methodLink RX5 35 yX1_copyTo ∈ TB := inT2 (List.mem_of_getElem? (i := 102) rfl) rfl
set_option maxRecDepth 20000 in
theorem ki_X1_copyTo : Cond.instanceMethod yX1_copyTo ∈ TB := inT2 (List.mem_of_getElem? (i := 103) rfl) rfl
set_option maxRecDepth 20000 in
theorem ke_X1_copyTo : Cond.selects RX1 yX1_copyTo yX1_copyTo ∈ TB := inT2 (List.mem_of_getElem? (i := 104) rfl) rfl
set_option maxRecDepth 20000 in
theorem kc_X1_copyTo : Cond.code yX1_copyTo cX1_copyTo 3 none ∈ TB := inT2 (List.mem_of_getElem? (i := 105) rfl) rfl
set_option maxRecDepth 20000 in
theorem kl_X1_43 : Cond.methodLink RX1 43 arraycopyName ∈ TB := inT2 (List.mem_of_getElem? (i := 107) rfl) rfl
set_option maxRecDepth 20000 in
theorem kl_X9_123 : Cond.methodLink RX9 123 yX9_wordBehind ∈ TB := inT2 (List.mem_of_getElem? (i := 108) rfl) rfl
set_option maxRecDepth 20000 in
theorem ki_X9_wordBehind : Cond.instanceMethod yX9_wordBehind ∈ TB := inT2 (List.mem_of_getElem? (i := 110) rfl) rfl
set_option maxRecDepth 20000 in
theorem kc_X9_wordBehind : Cond.code yX9_wordBehind cX9_wordBehind 2 (some .int) ∈ TB := inT2 (List.mem_of_getElem? (i := 111) rfl) rfl
set_option maxRecDepth 20000 in
theorem kl_X9_126 : Cond.methodLink RX9 126 yX1_add ∈ TB := inT2 (List.mem_of_getElem? (i := 112) rfl) rfl
set_option maxRecDepth 20000 in
theorem ki_X1_add : Cond.instanceMethod yX1_add ∈ TB := inT2 (List.mem_of_getElem? (i := 113) rfl) rfl
set_option maxRecDepth 20000 in
theorem ke_X1_add : Cond.selects RX1 yX1_add yX1_add ∈ TB := inT2 (List.mem_of_getElem? (i := 114) rfl) rfl
set_option maxRecDepth 20000 in
theorem kc_X1_add : Cond.code yX1_add cX1_add 5 none ∈ TB := inT2 (List.mem_of_getElem? (i := 115) rfl) rfl
set_option maxRecDepth 20000 in
theorem kl_X1_31 : Cond.methodLink RX1 31 yX1_isFull ∈ TB := inT2 (List.mem_of_getElem? (i := 116) rfl) rfl
set_option maxRecDepth 20000 in
theorem kl_X1_35 : Cond.methodLink RX1 35 yX1_change ∈ TB := inT2 (List.mem_of_getElem? (i := 117) rfl) rfl
set_option maxRecDepth 20000 in
theorem ki_X1_change : Cond.instanceMethod yX1_change ∈ TB := inT2 (List.mem_of_getElem? (i := 119) rfl) rfl
set_option maxRecDepth 20000 in
theorem kc_X1_change : Cond.code yX1_change cX1_change 4 none ∈ TB := inT2 (List.mem_of_getElem? (i := 120) rfl) rfl
set_option maxRecDepth 20000 in
theorem kl_X1_23 : Cond.methodLink RX1 23 yX1_holds ∈ TB := inT2 (List.mem_of_getElem? (i := 121) rfl) rfl
set_option maxRecDepth 20000 in
theorem ki_X1_holds : Cond.instanceMethod yX1_holds ∈ TB := inT2 (List.mem_of_getElem? (i := 122) rfl) rfl
set_option maxRecDepth 20000 in
theorem ke_X1_holds : Cond.selects RX1 yX1_holds yX1_holds ∈ TB := inT2 (List.mem_of_getElem? (i := 123) rfl) rfl
set_option maxRecDepth 20000 in
theorem kc_X1_holds : Cond.code yX1_holds cX1_holds 2 (some .boolean) ∈ TB := inT2 (List.mem_of_getElem? (i := 124) rfl) rfl
set_option maxRecDepth 20000 in
theorem kl_X9_130 : Cond.methodLink RX9 130 yX9_flourOf ∈ TB := inT2 (List.mem_of_getElem? (i := 125) rfl) rfl
set_option maxRecDepth 20000 in
theorem ks_X9_flourOf : Cond.static yX9_flourOf ∈ TB := inT2 (List.mem_of_getElem? (i := 126) rfl) rfl
set_option maxRecDepth 20000 in
theorem kc_X9_flourOf : Cond.code yX9_flourOf cX9_flourOf 3 (some .int) ∈ TB := inT2 (List.mem_of_getElem? (i := 127) rfl) rfl
set_option maxRecDepth 20000 in
theorem kl_X9_134 : Cond.methodLink RX9 134 yX1_useFlour ∈ TB := inT2 (List.mem_of_getElem? (i := 128) rfl) rfl
set_option maxRecDepth 20000 in
theorem ki_X1_useFlour : Cond.instanceMethod yX1_useFlour ∈ TB := inT2 (List.mem_of_getElem? (i := 129) rfl) rfl
set_option maxRecDepth 20000 in
theorem ke_X1_useFlour : Cond.selects RX1 yX1_useFlour yX1_useFlour ∈ TB := inT2 (List.mem_of_getElem? (i := 130) rfl) rfl
set_option maxRecDepth 20000 in
theorem kc_X1_useFlour : Cond.code yX1_useFlour cX1_useFlour 2 none ∈ TB := inT2 (List.mem_of_getElem? (i := 131) rfl) rfl
set_option maxRecDepth 20000 in
theorem kl_X9_137 : Cond.methodLink RX9 137 yX1_size ∈ TB := inT2 (List.mem_of_getElem? (i := 132) rfl) rfl
set_option maxRecDepth 20000 in
theorem kl_L_42 : Cond.methodLink RL 42 yX9_day ∈ TB := inT2 (List.mem_of_getElem? (i := 133) rfl) rfl
set_option maxRecDepth 20000 in
theorem ki_X9_day : Cond.instanceMethod yX9_day ∈ TB := inT2 (List.mem_of_getElem? (i := 134) rfl) rfl
set_option maxRecDepth 20000 in
theorem ke_X9_day : Cond.selects RX9 yX9_day yX9_day ∈ TB := inT2 (List.mem_of_getElem? (i := 135) rfl) rfl
set_option maxRecDepth 20000 in
theorem kc_X9_day : Cond.code yX9_day cX9_day 3 (some .int) ∈ TB := inT2 (List.mem_of_getElem? (i := 136) rfl) rfl
set_option maxRecDepth 20000 in
theorem kl_X9_140 : Cond.methodLink RX9 140 yX1_passDay ∈ TB := inT2 (List.mem_of_getElem? (i := 137) rfl) rfl
set_option maxRecDepth 20000 in
theorem ki_X1_passDay : Cond.instanceMethod yX1_passDay ∈ TB := inT2 (List.mem_of_getElem? (i := 138) rfl) rfl
set_option maxRecDepth 20000 in
theorem ke_X1_passDay : Cond.selects RX1 yX1_passDay yX1_passDay ∈ TB := inT2 (List.mem_of_getElem? (i := 139) rfl) rfl
set_option maxRecDepth 20000 in
theorem kc_X1_passDay : Cond.code yX1_passDay cX1_passDay 2 none ∈ TB := inT2 (List.mem_of_getElem? (i := 140) rfl) rfl
set_option maxRecDepth 20000 in
theorem kl_X1_39 : Cond.methodLink RX1 39 yX1_part ∈ TB := inT2 (List.mem_of_getElem? (i := 141) rfl) rfl
set_option maxRecDepth 20000 in
theorem ki_X1_part : Cond.instanceMethod yX1_part ∈ TB := inT2 (List.mem_of_getElem? (i := 142) rfl) rfl
set_option maxRecDepth 20000 in
theorem ke_X1_part : Cond.selects RX1 yX1_part yX1_part ∈ TB := inT2 (List.mem_of_getElem? (i := 143) rfl) rfl
set_option maxRecDepth 20000 in
theorem kc_X1_part : Cond.code yX1_part cX1_part 3 (some .int) ∈ TB := inT2 (List.mem_of_getElem? (i := 144) rfl) rfl
set_option maxRecDepth 20000 in
theorem kl_X9_143 : Cond.methodLink RX9 143 yX9_readingOf ∈ TB := inT2 (List.mem_of_getElem? (i := 146) rfl) rfl
set_option maxRecDepth 20000 in
theorem ki_X9_readingOf : Cond.instanceMethod yX9_readingOf ∈ TB := inT2 (List.mem_of_getElem? (i := 148) rfl) rfl
set_option maxRecDepth 20000 in
theorem kc_X9_readingOf : Cond.code yX9_readingOf cX9_readingOf 2 (some .int) ∈ TB := inT2 (List.mem_of_getElem? (i := 149) rfl) rfl
set_option maxRecDepth 20000 in
theorem kl_X9_162 : Cond.methodLink RX9 162 yX9_signNow ∈ TB := inT2 (List.mem_of_getElem? (i := 150) rfl) rfl
set_option maxRecDepth 20000 in
theorem ki_X9_signNow : Cond.instanceMethod yX9_signNow ∈ TB := inT2 (List.mem_of_getElem? (i := 152) rfl) rfl
set_option maxRecDepth 20000 in
theorem kc_X9_signNow : Cond.code yX9_signNow cX9_signNow 5 (some .int) ∈ TB := inT2 (List.mem_of_getElem? (i := 153) rfl) rfl
set_option maxRecDepth 20000 in
theorem kl_X9_146 : Cond.methodLink RX9 146 yX1_part ∈ TB := inT2 (List.mem_of_getElem? (i := 154) rfl) rfl
set_option maxRecDepth 20000 in
theorem kl_X9_172 : Cond.methodLink RX9 172 yX8_turned ∈ TB := inT2 (List.mem_of_getElem? (i := 155) rfl) rfl
set_option maxRecDepth 20000 in
theorem ki_X8_turned : Cond.instanceMethod yX8_turned ∈ TB := inT2 (List.mem_of_getElem? (i := 156) rfl) rfl
set_option maxRecDepth 20000 in
theorem ke_X8_turned : Cond.selects RX8 yX8_turned yX8_turned ∈ TB := inT2 (List.mem_of_getElem? (i := 157) rfl) rfl
set_option maxRecDepth 20000 in
theorem kc_X8_turned : Cond.code yX8_turned cX8_turned 6 (some .int) ∈ TB := inT2 (List.mem_of_getElem? (i := 158) rfl) rfl
set_option maxRecDepth 20000 in
theorem kl_X8_82 : Cond.methodLink RX8 82 yX8_aged ∈ TB := inT2 (List.mem_of_getElem? (i := 159) rfl) rfl
set_option maxRecDepth 20000 in
theorem ki_X8_aged : Cond.instanceMethod yX8_aged ∈ TB := inT2 (List.mem_of_getElem? (i := 160) rfl) rfl
set_option maxRecDepth 20000 in
theorem ke_X8_aged : Cond.selects RX8 yX8_aged yX8_aged ∈ TB := inT2 (List.mem_of_getElem? (i := 161) rfl) rfl
set_option maxRecDepth 20000 in
theorem kc_X8_aged : Cond.code yX8_aged cX8_aged 5 (some .int) ∈ TB := inT2 (List.mem_of_getElem? (i := 162) rfl) rfl
set_option maxRecDepth 20000 in
theorem kl_X8_64 : Cond.methodLink RX8 64 yX6_seeds ∈ TB := inT2 (List.mem_of_getElem? (i := 163) rfl) rfl
set_option maxRecDepth 20000 in
theorem kl_X8_67 : Cond.methodLink RX8 67 yX6_cuts ∈ TB := inT2 (List.mem_of_getElem? (i := 164) rfl) rfl
set_option maxRecDepth 20000 in
theorem kl_X8_70 : Cond.methodLink RX8 70 yJ9_max_7cf53 ∈ TB := inT2 (List.mem_of_getElem? (i := 165) rfl) rfl
set_option maxRecDepth 20000 in
theorem kl_X8_76 : Cond.methodLink RX8 76 yJ9_min_7cf53 ∈ TB := inT2 (List.mem_of_getElem? (i := 166) rfl) rfl
set_option maxRecDepth 20000 in
theorem ks_J9_min_7cf53 : Cond.static yJ9_min_7cf53 ∈ TB := inT2 (List.mem_of_getElem? (i := 167) rfl) rfl
set_option maxRecDepth 20000 in
theorem kc_J9_min_7cf53 : Cond.code yJ9_min_7cf53 cJ9_min_7cf53 2 (some .int) ∈ TB := inT2 (List.mem_of_getElem? (i := 168) rfl) rfl
set_option maxRecDepth 20000 in
theorem kl_X8_79 : Cond.methodLink RX8 79 yX6_filling ∈ TB := inT2 (List.mem_of_getElem? (i := 169) rfl) rfl
set_option maxRecDepth 20000 in
theorem kl_X8_85 : Cond.methodLink RX8 85 yX6_bitten ∈ TB := inT2 (List.mem_of_getElem? (i := 170) rfl) rfl
set_option maxRecDepth 20000 in
theorem ks_X6_bitten : Cond.static yX6_bitten ∈ TB := inT2 (List.mem_of_getElem? (i := 171) rfl) rfl
set_option maxRecDepth 20000 in
theorem kc_X6_bitten : Cond.code yX6_bitten cX6_bitten 1 (some .int) ∈ TB := inT2 (List.mem_of_getElem? (i := 172) rfl) rfl
set_option maxRecDepth 20000 in
theorem kl_X6_19 : Cond.methodLink RX6 19 yX6_of ∈ TB := inT2 (List.mem_of_getElem? (i := 173) rfl) rfl
set_option maxRecDepth 20000 in
theorem kl_X9_257 : Cond.methodLink RX9 257 yX8_readAs ∈ TB := inT2 (List.mem_of_getElem? (i := 174) rfl) rfl
set_option maxRecDepth 20000 in
theorem kl_L_46 : Cond.methodLink RL 46 yX9_bite ∈ TB := inT2 (List.mem_of_getElem? (i := 175) rfl) rfl
set_option maxRecDepth 20000 in
theorem ki_X9_bite : Cond.instanceMethod yX9_bite ∈ TB := inT2 (List.mem_of_getElem? (i := 176) rfl) rfl
set_option maxRecDepth 20000 in
theorem ke_X9_bite : Cond.selects RX9 yX9_bite yX9_bite ∈ TB := inT2 (List.mem_of_getElem? (i := 177) rfl) rfl
set_option maxRecDepth 20000 in
theorem kc_X9_bite : Cond.code yX9_bite cX9_bite 2 (some .int) ∈ TB := inT2 (List.mem_of_getElem? (i := 178) rfl) rfl
set_option maxRecDepth 20000 in
theorem kl_X9_149 : Cond.methodLink RX9 149 yX1_holds ∈ TB := inT2 (List.mem_of_getElem? (i := 179) rfl) rfl
set_option maxRecDepth 20000 in
theorem kl_X9_152 : Cond.methodLink RX9 152 yX1_addBite ∈ TB := inT2 (List.mem_of_getElem? (i := 180) rfl) rfl
set_option maxRecDepth 20000 in
theorem ki_X1_addBite : Cond.instanceMethod yX1_addBite ∈ TB := inT2 (List.mem_of_getElem? (i := 181) rfl) rfl
set_option maxRecDepth 20000 in
theorem ke_X1_addBite : Cond.selects RX1 yX1_addBite yX1_addBite ∈ TB := inT2 (List.mem_of_getElem? (i := 182) rfl) rfl
set_option maxRecDepth 20000 in
theorem kc_X1_addBite : Cond.code yX1_addBite cX1_addBite 2 none ∈ TB := inT2 (List.mem_of_getElem? (i := 183) rfl) rfl
set_option maxRecDepth 20000 in
theorem kl_L_51 : Cond.methodLink RL 51 yX9_take ∈ TB := inT2 (List.mem_of_getElem? (i := 184) rfl) rfl
set_option maxRecDepth 20000 in
theorem ki_X9_take : Cond.instanceMethod yX9_take ∈ TB := inT2 (List.mem_of_getElem? (i := 185) rfl) rfl
set_option maxRecDepth 20000 in
theorem ke_X9_take : Cond.selects RX9 yX9_take yX9_take ∈ TB := inT2 (List.mem_of_getElem? (i := 186) rfl) rfl
set_option maxRecDepth 20000 in
theorem kc_X9_take : Cond.code yX9_take cX9_take 3 (some .int) ∈ TB := inT2 (List.mem_of_getElem? (i := 187) rfl) rfl
set_option maxRecDepth 20000 in
theorem kl_X9_155 : Cond.methodLink RX9 155 yX1_remove ∈ TB := inT2 (List.mem_of_getElem? (i := 188) rfl) rfl
set_option maxRecDepth 20000 in
theorem ki_X1_remove : Cond.instanceMethod yX1_remove ∈ TB := inT2 (List.mem_of_getElem? (i := 189) rfl) rfl
set_option maxRecDepth 20000 in
theorem ke_X1_remove : Cond.selects RX1 yX1_remove yX1_remove ∈ TB := inT2 (List.mem_of_getElem? (i := 190) rfl) rfl
set_option maxRecDepth 20000 in
theorem kc_X1_remove : Cond.code yX1_remove cX1_remove 4 none ∈ TB := inT2 (List.mem_of_getElem? (i := 191) rfl) rfl
set_option maxRecDepth 20000 in
theorem kl_L_55 : Cond.methodLink RL 55 yX9_undo ∈ TB := inT2 (List.mem_of_getElem? (i := 192) rfl) rfl
set_option maxRecDepth 20000 in
theorem ki_X9_undo : Cond.instanceMethod yX9_undo ∈ TB := inT2 (List.mem_of_getElem? (i := 193) rfl) rfl
set_option maxRecDepth 20000 in
theorem ke_X9_undo : Cond.selects RX9 yX9_undo yX9_undo ∈ TB := inT2 (List.mem_of_getElem? (i := 194) rfl) rfl
set_option maxRecDepth 20000 in
theorem kc_X9_undo : Cond.code yX9_undo cX9_undo 1 (some .int) ∈ TB := inT2 (List.mem_of_getElem? (i := 195) rfl) rfl
set_option maxRecDepth 20000 in
theorem kl_X9_158 : Cond.methodLink RX9 158 yX5_size ∈ TB := inT2 (List.mem_of_getElem? (i := 196) rfl) rfl
set_option maxRecDepth 20000 in
theorem ki_X5_size : Cond.instanceMethod yX5_size ∈ TB := inT2 (List.mem_of_getElem? (i := 197) rfl) rfl
set_option maxRecDepth 20000 in
theorem ke_X5_size : Cond.selects RX5 yX5_size yX5_size ∈ TB := inT2 (List.mem_of_getElem? (i := 198) rfl) rfl
set_option maxRecDepth 20000 in
theorem kc_X5_size : Cond.code yX5_size cX5_size 1 (some .int) ∈ TB := inT2 (List.mem_of_getElem? (i := 199) rfl) rfl
set_option maxRecDepth 20000 in
theorem kl_X9_159 : Cond.methodLink RX9 159 yX5_popInto ∈ TB := inT2 (List.mem_of_getElem? (i := 200) rfl) rfl
set_option maxRecDepth 20000 in
theorem ki_X5_popInto : Cond.instanceMethod yX5_popInto ∈ TB := inT2 (List.mem_of_getElem? (i := 201) rfl) rfl
set_option maxRecDepth 20000 in
theorem ke_X5_popInto : Cond.selects RX5 yX5_popInto yX5_popInto ∈ TB := inT2 (List.mem_of_getElem? (i := 202) rfl) rfl
set_option maxRecDepth 20000 in
theorem kc_X5_popInto : Cond.code yX5_popInto cX5_popInto 2 none ∈ TB := inT2 (List.mem_of_getElem? (i := 203) rfl) rfl
set_option maxRecDepth 20000 in
theorem kl_X5_39 : Cond.methodLink RX5 39 yX1_copyFrom ∈ TB := inT2 (List.mem_of_getElem? (i := 204) rfl) rfl
set_option maxRecDepth 20000 in
theorem ki_X1_copyFrom : Cond.instanceMethod yX1_copyFrom ∈ TB := inT2 (List.mem_of_getElem? (i := 205) rfl) rfl
set_option maxRecDepth 20000 in
theorem ke_X1_copyFrom : Cond.selects RX1 yX1_copyFrom yX1_copyFrom ∈ TB := inT2 (List.mem_of_getElem? (i := 206) rfl) rfl
set_option maxRecDepth 20000 in
theorem kc_X1_copyFrom : Cond.code yX1_copyFrom cX1_copyFrom 3 none ∈ TB := inT2 (List.mem_of_getElem? (i := 207) rfl) rfl
set_option maxRecDepth 20000 in
theorem kl_L_59 : Cond.methodLink RL 59 yX9_loaf ∈ TB := inT2 (List.mem_of_getElem? (i := 208) rfl) rfl
set_option maxRecDepth 20000 in
theorem ki_X9_loaf : Cond.instanceMethod yX9_loaf ∈ TB := inT2 (List.mem_of_getElem? (i := 209) rfl) rfl
set_option maxRecDepth 20000 in
theorem ke_X9_loaf : Cond.selects RX9 yX9_loaf yX9_loaf ∈ TB := inT2 (List.mem_of_getElem? (i := 210) rfl) rfl
set_option maxRecDepth 20000 in
theorem kc_X9_loaf : Cond.code yX9_loaf cX9_loaf 3 (some .int) ∈ TB := inT2 (List.mem_of_getElem? (i := 211) rfl) rfl
set_option maxRecDepth 20000 in
theorem kl_L_63 : Cond.methodLink RL 63 yX9_becomes ∈ TB := inT2 (List.mem_of_getElem? (i := 212) rfl) rfl
set_option maxRecDepth 20000 in
theorem ki_X9_becomes : Cond.instanceMethod yX9_becomes ∈ TB := inT2 (List.mem_of_getElem? (i := 213) rfl) rfl
set_option maxRecDepth 20000 in
theorem ke_X9_becomes : Cond.selects RX9 yX9_becomes yX9_becomes ∈ TB := inT2 (List.mem_of_getElem? (i := 214) rfl) rfl
set_option maxRecDepth 20000 in
theorem kc_X9_becomes : Cond.code yX9_becomes cX9_becomes 4 (some .int) ∈ TB := inT2 (List.mem_of_getElem? (i := 215) rfl) rfl
set_option maxRecDepth 20000 in
theorem kl_X9_165 : Cond.methodLink RX9 165 yX9_isSign ∈ TB := inT2 (List.mem_of_getElem? (i := 216) rfl) rfl
set_option maxRecDepth 20000 in
theorem ks_X9_isSign : Cond.static yX9_isSign ∈ TB := inT2 (List.mem_of_getElem? (i := 217) rfl) rfl
set_option maxRecDepth 20000 in
theorem kc_X9_isSign : Cond.code yX9_isSign cX9_isSign 1 (some .boolean) ∈ TB := inT2 (List.mem_of_getElem? (i := 218) rfl) rfl
set_option maxRecDepth 20000 in
theorem kl_X9_168 : Cond.methodLink RX9 168 yX9_isLoss ∈ TB := inT2 (List.mem_of_getElem? (i := 219) rfl) rfl
set_option maxRecDepth 20000 in
theorem ks_X9_isLoss : Cond.static yX9_isLoss ∈ TB := inT2 (List.mem_of_getElem? (i := 220) rfl) rfl
set_option maxRecDepth 20000 in
theorem kc_X9_isLoss : Cond.code yX9_isLoss cX9_isLoss 2 (some .boolean) ∈ TB := inT2 (List.mem_of_getElem? (i := 221) rfl) rfl
set_option maxRecDepth 20000 in
theorem kl_X9_207 : Cond.methodLink RX9 207 yX9_isAge ∈ TB := inT2 (List.mem_of_getElem? (i := 222) rfl) rfl
set_option maxRecDepth 20000 in
theorem ks_X9_isAge : Cond.static yX9_isAge ∈ TB := inT2 (List.mem_of_getElem? (i := 223) rfl) rfl
set_option maxRecDepth 20000 in
theorem kc_X9_isAge : Cond.code yX9_isAge cX9_isAge 1 (some .boolean) ∈ TB := inT2 (List.mem_of_getElem? (i := 224) rfl) rfl
set_option maxRecDepth 20000 in
theorem kl_L_68 : Cond.methodLink RL 68 yX9_mayBe ∈ TB := inT2 (List.mem_of_getElem? (i := 225) rfl) rfl
set_option maxRecDepth 20000 in
theorem ki_X9_mayBe : Cond.instanceMethod yX9_mayBe ∈ TB := inT2 (List.mem_of_getElem? (i := 226) rfl) rfl
set_option maxRecDepth 20000 in
theorem ke_X9_mayBe : Cond.selects RX9 yX9_mayBe yX9_mayBe ∈ TB := inT2 (List.mem_of_getElem? (i := 227) rfl) rfl
set_option maxRecDepth 20000 in
theorem kc_X9_mayBe : Cond.code yX9_mayBe cX9_mayBe 4 (some .int) ∈ TB := inT2 (List.mem_of_getElem? (i := 228) rfl) rfl
set_option maxRecDepth 20000 in
theorem kl_X9_176 : Cond.methodLink RX9 176 yX3_fill ∈ TB := inT2 (List.mem_of_getElem? (i := 229) rfl) rfl
set_option maxRecDepth 20000 in
theorem ki_X3_fill : Cond.instanceMethod yX3_fill ∈ TB := inT2 (List.mem_of_getElem? (i := 230) rfl) rfl
set_option maxRecDepth 20000 in
theorem ke_X3_fill : Cond.selects RX3 yX3_fill yX3_fill ∈ TB := inT2 (List.mem_of_getElem? (i := 231) rfl) rfl
set_option maxRecDepth 20000 in
theorem kc_X3_fill : Cond.code yX3_fill cX3_fill 8 none ∈ TB := inT2 (List.mem_of_getElem? (i := 232) rfl) rfl
set_option maxRecDepth 20000 in
theorem kl_X3_22 : Cond.methodLink RX3 22 yX8_aged ∈ TB := inT2 (List.mem_of_getElem? (i := 234) rfl) rfl
set_option maxRecDepth 20000 in
theorem kl_X3_28 : Cond.methodLink RX3 28 yX3_markBitten ∈ TB := inT2 (List.mem_of_getElem? (i := 235) rfl) rfl
set_option maxRecDepth 20000 in
theorem ki_X3_markBitten : Cond.instanceMethod yX3_markBitten ∈ TB := inT2 (List.mem_of_getElem? (i := 237) rfl) rfl
set_option maxRecDepth 20000 in
theorem kc_X3_markBitten : Cond.code yX3_markBitten cX3_markBitten 6 none ∈ TB := inT2 (List.mem_of_getElem? (i := 238) rfl) rfl
set_option maxRecDepth 20000 in
theorem kl_X3_32 : Cond.methodLink RX3 32 yX3_mark ∈ TB := inT2 (List.mem_of_getElem? (i := 239) rfl) rfl
set_option maxRecDepth 20000 in
theorem ki_X3_mark : Cond.instanceMethod yX3_mark ∈ TB := inT3 (List.mem_of_getElem? (i := 1) rfl) rfl
set_option maxRecDepth 20000 in
theorem kc_X3_mark : Cond.code yX3_mark cX3_mark 3 none ∈ TB := inT3 (List.mem_of_getElem? (i := 2) rfl) rfl
set_option maxRecDepth 20000 in
theorem kl_X3_36 : Cond.methodLink RX3 36 yX6_bitten ∈ TB := inT3 (List.mem_of_getElem? (i := 3) rfl) rfl
set_option maxRecDepth 20000 in
theorem kl_X9_180 : Cond.methodLink RX9 180 yX3_sizeOf ∈ TB := inT3 (List.mem_of_getElem? (i := 4) rfl) rfl
set_option maxRecDepth 20000 in
theorem ki_X3_sizeOf : Cond.instanceMethod yX3_sizeOf ∈ TB := inT3 (List.mem_of_getElem? (i := 5) rfl) rfl
set_option maxRecDepth 20000 in
theorem ke_X3_sizeOf : Cond.selects RX3 yX3_sizeOf yX3_sizeOf ∈ TB := inT3 (List.mem_of_getElem? (i := 6) rfl) rfl
set_option maxRecDepth 20000 in
theorem kc_X3_sizeOf : Cond.code yX3_sizeOf cX3_sizeOf 2 (some .int) ∈ TB := inT3 (List.mem_of_getElem? (i := 7) rfl) rfl
set_option maxRecDepth 20000 in
theorem kl_X3_42 : Cond.methodLink RX3 42 yJ13_bitCount_95d88 ∈ TB := inT3 (List.mem_of_getElem? (i := 8) rfl) rfl
set_option maxRecDepth 20000 in
theorem ks_J13_bitCount_95d88 : Cond.static yJ13_bitCount_95d88 ∈ TB := inT3 (List.mem_of_getElem? (i := 9) rfl) rfl
set_option maxRecDepth 20000 in
theorem kc_J13_bitCount_95d88 : Cond.code yJ13_bitCount_95d88 cJ13_bitCount_95d88 2 (some .int) ∈ TB := inT3 (List.mem_of_getElem? (i := 10) rfl) rfl
set_option maxRecDepth 20000 in
theorem kv_J13_314 : Cond.constantLong RJ13 314 (6148914691236517205) ∈ TB := inT3 (List.mem_of_getElem? (i := 11) rfl) rfl
set_option maxRecDepth 20000 in
theorem kv_J13_316 : Cond.constantLong RJ13 316 (3689348814741910323) ∈ TB := inT3 (List.mem_of_getElem? (i := 12) rfl) rfl
set_option maxRecDepth 20000 in
theorem kv_J13_318 : Cond.constantLong RJ13 318 (1085102592571150095) ∈ TB := inT3 (List.mem_of_getElem? (i := 13) rfl) rfl
set_option maxRecDepth 20000 in
theorem kl_L_72 : Cond.methodLink RL 72 yX9_can ∈ TB := inT3 (List.mem_of_getElem? (i := 14) rfl) rfl
set_option maxRecDepth 20000 in
theorem ki_X9_can : Cond.instanceMethod yX9_can ∈ TB := inT3 (List.mem_of_getElem? (i := 15) rfl) rfl
set_option maxRecDepth 20000 in
theorem ke_X9_can : Cond.selects RX9 yX9_can yX9_can ∈ TB := inT3 (List.mem_of_getElem? (i := 16) rfl) rfl
set_option maxRecDepth 20000 in
theorem kc_X9_can : Cond.code yX9_can cX9_can 5 (some .int) ∈ TB := inT3 (List.mem_of_getElem? (i := 17) rfl) rfl
set_option maxRecDepth 20000 in
theorem kl_X9_183 : Cond.methodLink RX9 183 yX3_holds ∈ TB := inT3 (List.mem_of_getElem? (i := 18) rfl) rfl
set_option maxRecDepth 20000 in
theorem ki_X3_holds : Cond.instanceMethod yX3_holds ∈ TB := inT3 (List.mem_of_getElem? (i := 19) rfl) rfl
set_option maxRecDepth 20000 in
theorem ke_X3_holds : Cond.selects RX3 yX3_holds yX3_holds ∈ TB := inT3 (List.mem_of_getElem? (i := 20) rfl) rfl
set_option maxRecDepth 20000 in
theorem kc_X3_holds : Cond.code yX3_holds cX3_holds 5 (some .boolean) ∈ TB := inT3 (List.mem_of_getElem? (i := 21) rfl) rfl
set_option maxRecDepth 20000 in
theorem kl_L_77 : Cond.methodLink RL 77 yX9_was ∈ TB := inT3 (List.mem_of_getElem? (i := 22) rfl) rfl
set_option maxRecDepth 20000 in
theorem ki_X9_was : Cond.instanceMethod yX9_was ∈ TB := inT3 (List.mem_of_getElem? (i := 23) rfl) rfl
set_option maxRecDepth 20000 in
theorem ke_X9_was : Cond.selects RX9 yX9_was yX9_was ∈ TB := inT3 (List.mem_of_getElem? (i := 24) rfl) rfl
set_option maxRecDepth 20000 in
theorem kc_X9_was : Cond.code yX9_was cX9_was 6 (some .int) ∈ TB := inT3 (List.mem_of_getElem? (i := 25) rfl) rfl
set_option maxRecDepth 20000 in
theorem kl_L_81 : Cond.methodLink RL 81 yX9_half ∈ TB := inT3 (List.mem_of_getElem? (i := 26) rfl) rfl
set_option maxRecDepth 20000 in
theorem ki_X9_half : Cond.instanceMethod yX9_half ∈ TB := inT3 (List.mem_of_getElem? (i := 27) rfl) rfl
set_option maxRecDepth 20000 in
theorem ke_X9_half : Cond.selects RX9 yX9_half yX9_half ∈ TB := inT3 (List.mem_of_getElem? (i := 28) rfl) rfl
set_option maxRecDepth 20000 in
theorem kc_X9_half : Cond.code yX9_half cX9_half 7 (some .int) ∈ TB := inT3 (List.mem_of_getElem? (i := 29) rfl) rfl
set_option maxRecDepth 20000 in
theorem kl_X9_185 : Cond.methodLink RX9 185 yX6_seeds ∈ TB := inT3 (List.mem_of_getElem? (i := 30) rfl) rfl
set_option maxRecDepth 20000 in
theorem kl_X9_188 : Cond.methodLink RX9 188 yX6_cuts ∈ TB := inT3 (List.mem_of_getElem? (i := 31) rfl) rfl
set_option maxRecDepth 20000 in
theorem kl_X9_191 : Cond.methodLink RX9 191 yX6_filling ∈ TB := inT3 (List.mem_of_getElem? (i := 32) rfl) rfl
set_option maxRecDepth 20000 in
theorem kl_L_85 : Cond.methodLink RL 85 yX9_code ∈ TB := inT3 (List.mem_of_getElem? (i := 33) rfl) rfl
set_option maxRecDepth 20000 in
theorem ki_X9_code : Cond.instanceMethod yX9_code ∈ TB := inT3 (List.mem_of_getElem? (i := 34) rfl) rfl
set_option maxRecDepth 20000 in
theorem ke_X9_code : Cond.selects RX9 yX9_code yX9_code ∈ TB := inT3 (List.mem_of_getElem? (i := 35) rfl) rfl
set_option maxRecDepth 20000 in
theorem kc_X9_code : Cond.code yX9_code cX9_code 5 (some .int) ∈ TB := inT3 (List.mem_of_getElem? (i := 36) rfl) rfl
set_option maxRecDepth 20000 in
theorem kl_X9_194 : Cond.methodLink RX9 194 yX0_find ∈ TB := inT3 (List.mem_of_getElem? (i := 37) rfl) rfl
set_option maxRecDepth 20000 in
theorem ki_X0_find : Cond.instanceMethod yX0_find ∈ TB := inT3 (List.mem_of_getElem? (i := 38) rfl) rfl
set_option maxRecDepth 20000 in
theorem ke_X0_find : Cond.selects RX0 yX0_find yX0_find ∈ TB := inT3 (List.mem_of_getElem? (i := 39) rfl) rfl
set_option maxRecDepth 20000 in
theorem kc_X0_find : Cond.code yX0_find cX0_find 6 (some .boolean) ∈ TB := inT3 (List.mem_of_getElem? (i := 40) rfl) rfl
set_option maxRecDepth 20000 in
theorem kl_X0_22 : Cond.methodLink RX0 22 yX3_fill ∈ TB := inT3 (List.mem_of_getElem? (i := 41) rfl) rfl
set_option maxRecDepth 20000 in
theorem kv_X0_34 : Cond.constant RX0 34 (2147483647) ∈ TB := inT3 (List.mem_of_getElem? (i := 42) rfl) rfl
set_option maxRecDepth 20000 in
theorem kl_X0_38 : Cond.methodLink RX0 38 yX0_extend ∈ TB := inT3 (List.mem_of_getElem? (i := 43) rfl) rfl
set_option maxRecDepth 20000 in
theorem ki_X0_extend : Cond.instanceMethod yX0_extend ∈ TB := inT3 (List.mem_of_getElem? (i := 45) rfl) rfl
set_option maxRecDepth 20000 in
theorem kc_X0_extend : Cond.code yX0_extend cX0_extend 6 none ∈ TB := inT3 (List.mem_of_getElem? (i := 46) rfl) rfl
set_option maxRecDepth 20000 in
theorem kl_X0_46 : Cond.methodLink RX0 46 arraycopyName ∈ TB := inT3 (List.mem_of_getElem? (i := 47) rfl) rfl
set_option maxRecDepth 20000 in
theorem kl_X0_52 : Cond.methodLink RX0 52 yX6_flour ∈ TB := inT3 (List.mem_of_getElem? (i := 48) rfl) rfl
set_option maxRecDepth 20000 in
theorem kl_X0_58 : Cond.methodLink RX0 58 yX0_staysApart ∈ TB := inT3 (List.mem_of_getElem? (i := 49) rfl) rfl
set_option maxRecDepth 20000 in
theorem ki_X0_staysApart : Cond.instanceMethod yX0_staysApart ∈ TB := inT3 (List.mem_of_getElem? (i := 51) rfl) rfl
set_option maxRecDepth 20000 in
theorem kc_X0_staysApart : Cond.code yX0_staysApart cX0_staysApart 4 (some .boolean) ∈ TB := inT3 (List.mem_of_getElem? (i := 52) rfl) rfl
set_option maxRecDepth 20000 in
theorem kl_X0_62 : Cond.methodLink RX0 62 yX3_meet ∈ TB := inT3 (List.mem_of_getElem? (i := 54) rfl) rfl
set_option maxRecDepth 20000 in
theorem ki_X3_meet : Cond.instanceMethod yX3_meet ∈ TB := inT3 (List.mem_of_getElem? (i := 55) rfl) rfl
set_option maxRecDepth 20000 in
theorem ke_X3_meet : Cond.selects RX3 yX3_meet yX3_meet ∈ TB := inT3 (List.mem_of_getElem? (i := 56) rfl) rfl
set_option maxRecDepth 20000 in
theorem kc_X3_meet : Cond.code yX3_meet cX3_meet 3 (some .boolean) ∈ TB := inT3 (List.mem_of_getElem? (i := 57) rfl) rfl
set_option maxRecDepth 20000 in
theorem kl_X9_198 : Cond.methodLink RX9 198 yX0_leastFlour ∈ TB := inT3 (List.mem_of_getElem? (i := 58) rfl) rfl
set_option maxRecDepth 20000 in
theorem ki_X0_leastFlour : Cond.instanceMethod yX0_leastFlour ∈ TB := inT3 (List.mem_of_getElem? (i := 59) rfl) rfl
set_option maxRecDepth 20000 in
theorem ke_X0_leastFlour : Cond.selects RX0 yX0_leastFlour yX0_leastFlour ∈ TB := inT3 (List.mem_of_getElem? (i := 60) rfl) rfl
set_option maxRecDepth 20000 in
theorem kc_X0_leastFlour : Cond.code yX0_leastFlour cX0_leastFlour 1 (some .int) ∈ TB := inT3 (List.mem_of_getElem? (i := 61) rfl) rfl
set_option maxRecDepth 20000 in
theorem kl_X9_201 : Cond.methodLink RX9 201 yX0_signAt ∈ TB := inT3 (List.mem_of_getElem? (i := 62) rfl) rfl
set_option maxRecDepth 20000 in
theorem ki_X0_signAt : Cond.instanceMethod yX0_signAt ∈ TB := inT3 (List.mem_of_getElem? (i := 63) rfl) rfl
set_option maxRecDepth 20000 in
theorem ke_X0_signAt : Cond.selects RX0 yX0_signAt yX0_signAt ∈ TB := inT3 (List.mem_of_getElem? (i := 64) rfl) rfl
set_option maxRecDepth 20000 in
theorem kc_X0_signAt : Cond.code yX0_signAt cX0_signAt 2 (some .int) ∈ TB := inT3 (List.mem_of_getElem? (i := 65) rfl) rfl
set_option maxRecDepth 20000 in
theorem kl_L_89 : Cond.methodLink RL 89 yX9_sent ∈ TB := inT3 (List.mem_of_getElem? (i := 66) rfl) rfl
set_option maxRecDepth 20000 in
theorem ki_X9_sent : Cond.instanceMethod yX9_sent ∈ TB := inT3 (List.mem_of_getElem? (i := 67) rfl) rfl
set_option maxRecDepth 20000 in
theorem ke_X9_sent : Cond.selects RX9 yX9_sent yX9_sent ∈ TB := inT3 (List.mem_of_getElem? (i := 68) rfl) rfl
set_option maxRecDepth 20000 in
theorem kc_X9_sent : Cond.code yX9_sent cX9_sent 7 (some .int) ∈ TB := inT3 (List.mem_of_getElem? (i := 69) rfl) rfl
set_option maxRecDepth 20000 in
theorem kl_X9_204 : Cond.methodLink RX9 204 yX9_isCarrier ∈ TB := inT3 (List.mem_of_getElem? (i := 70) rfl) rfl
set_option maxRecDepth 20000 in
theorem ki_X9_isCarrier : Cond.instanceMethod yX9_isCarrier ∈ TB := inT3 (List.mem_of_getElem? (i := 72) rfl) rfl
set_option maxRecDepth 20000 in
theorem kc_X9_isCarrier : Cond.code yX9_isCarrier cX9_isCarrier 2 (some .boolean) ∈ TB := inT3 (List.mem_of_getElem? (i := 73) rfl) rfl
set_option maxRecDepth 20000 in
theorem kl_X9_234 : Cond.methodLink RX9 234 yX8_carriers ∈ TB := inT3 (List.mem_of_getElem? (i := 74) rfl) rfl
set_option maxRecDepth 20000 in
theorem ki_X8_carriers : Cond.instanceMethod yX8_carriers ∈ TB := inT3 (List.mem_of_getElem? (i := 75) rfl) rfl
set_option maxRecDepth 20000 in
theorem ke_X8_carriers : Cond.selects RX8 yX8_carriers yX8_carriers ∈ TB := inT3 (List.mem_of_getElem? (i := 76) rfl) rfl
set_option maxRecDepth 20000 in
theorem kc_X8_carriers : Cond.code yX8_carriers cX8_carriers 1 (some .int) ∈ TB := inT3 (List.mem_of_getElem? (i := 77) rfl) rfl
set_option maxRecDepth 20000 in
theorem kl_X9_210 : Cond.methodLink RX9 210 yX9_isChoice ∈ TB := inT3 (List.mem_of_getElem? (i := 78) rfl) rfl
set_option maxRecDepth 20000 in
theorem ks_X9_isChoice : Cond.static yX9_isChoice ∈ TB := inT3 (List.mem_of_getElem? (i := 79) rfl) rfl
set_option maxRecDepth 20000 in
theorem kc_X9_isChoice : Cond.code yX9_isChoice cX9_isChoice 1 (some .boolean) ∈ TB := inT3 (List.mem_of_getElem? (i := 80) rfl) rfl
set_option maxRecDepth 20000 in
theorem kv_X9_213 : Cond.constantLong RX9 213 (10) ∈ TB := inT3 (List.mem_of_getElem? (i := 81) rfl) rfl
set_option maxRecDepth 20000 in
theorem kl_X9_215 : Cond.methodLink RX9 215 yX8_milesOf ∈ TB := inT3 (List.mem_of_getElem? (i := 82) rfl) rfl
set_option maxRecDepth 20000 in
theorem ki_X8_milesOf : Cond.instanceMethod yX8_milesOf ∈ TB := inT3 (List.mem_of_getElem? (i := 83) rfl) rfl
set_option maxRecDepth 20000 in
theorem ke_X8_milesOf : Cond.selects RX8 yX8_milesOf yX8_milesOf ∈ TB := inT3 (List.mem_of_getElem? (i := 84) rfl) rfl
set_option maxRecDepth 20000 in
theorem kc_X8_milesOf : Cond.code yX8_milesOf cX8_milesOf 2 (some .int) ∈ TB := inT3 (List.mem_of_getElem? (i := 85) rfl) rfl
set_option maxRecDepth 20000 in
theorem kl_X9_218 : Cond.methodLink RX9 218 yX2_power ∈ TB := inT3 (List.mem_of_getElem? (i := 86) rfl) rfl
set_option maxRecDepth 20000 in
theorem ks_X2_power : Cond.static yX2_power ∈ TB := inT3 (List.mem_of_getElem? (i := 87) rfl) rfl
set_option maxRecDepth 20000 in
theorem kc_X2_power : Cond.code yX2_power cX2_power 6 (some .long) ∈ TB := inT3 (List.mem_of_getElem? (i := 88) rfl) rfl
set_option maxRecDepth 20000 in
theorem kl_X9_224 : Cond.methodLink RX9 224 yX8_waysRead ∈ TB := inT3 (List.mem_of_getElem? (i := 89) rfl) rfl
set_option maxRecDepth 20000 in
theorem ki_X8_waysRead : Cond.instanceMethod yX8_waysRead ∈ TB := inT3 (List.mem_of_getElem? (i := 90) rfl) rfl
set_option maxRecDepth 20000 in
theorem ke_X8_waysRead : Cond.selects RX8 yX8_waysRead yX8_waysRead ∈ TB := inT3 (List.mem_of_getElem? (i := 91) rfl) rfl
set_option maxRecDepth 20000 in
theorem kc_X8_waysRead : Cond.code yX8_waysRead cX8_waysRead 9 (some .long) ∈ TB := inT3 (List.mem_of_getElem? (i := 92) rfl) rfl
set_option maxRecDepth 20000 in
theorem kl_X8_88 : Cond.methodLink RX8 88 yX8_milesOf ∈ TB := inT3 (List.mem_of_getElem? (i := 93) rfl) rfl
set_option maxRecDepth 20000 in
theorem kl_X8_91 : Cond.methodLink RX8 91 yX8_turned ∈ TB := inT3 (List.mem_of_getElem? (i := 94) rfl) rfl
set_option maxRecDepth 20000 in
theorem kl_X8_94 : Cond.methodLink RX8 94 yX2_choose ∈ TB := inT3 (List.mem_of_getElem? (i := 95) rfl) rfl
set_option maxRecDepth 20000 in
theorem ks_X2_choose : Cond.static yX2_choose ∈ TB := inT3 (List.mem_of_getElem? (i := 96) rfl) rfl
set_option maxRecDepth 20000 in
theorem kc_X2_choose : Cond.code yX2_choose cX2_choose 5 (some .long) ∈ TB := inT3 (List.mem_of_getElem? (i := 97) rfl) rfl
set_option maxRecDepth 20000 in
theorem kl_X8_100 : Cond.methodLink RX8 100 yX2_power ∈ TB := inT3 (List.mem_of_getElem? (i := 98) rfl) rfl
set_option maxRecDepth 20000 in
theorem kl_X9_228 : Cond.methodLink RX9 228 yX2_lowest ∈ TB := inT3 (List.mem_of_getElem? (i := 99) rfl) rfl
set_option maxRecDepth 20000 in
theorem ks_X2_lowest : Cond.static yX2_lowest ∈ TB := inT3 (List.mem_of_getElem? (i := 100) rfl) rfl
set_option maxRecDepth 20000 in
theorem kc_X2_lowest : Cond.code yX2_lowest cX2_lowest 9 (some .long) ∈ TB := inT3 (List.mem_of_getElem? (i := 101) rfl) rfl
set_option maxRecDepth 20000 in
theorem kl_X2_7 : Cond.methodLink RX2 7 yX2_commonDivisor ∈ TB := inT3 (List.mem_of_getElem? (i := 102) rfl) rfl
set_option maxRecDepth 20000 in
theorem ks_X2_commonDivisor : Cond.static yX2_commonDivisor ∈ TB := inT3 (List.mem_of_getElem? (i := 103) rfl) rfl
set_option maxRecDepth 20000 in
theorem kc_X2_commonDivisor : Cond.code yX2_commonDivisor cX2_commonDivisor 11 (some .long) ∈ TB := inT3 (List.mem_of_getElem? (i := 104) rfl) rfl
set_option maxRecDepth 20000 in
theorem kl_L_93 : Cond.methodLink RL 93 yX9_whom ∈ TB := inT3 (List.mem_of_getElem? (i := 105) rfl) rfl
set_option maxRecDepth 20000 in
theorem ki_X9_whom : Cond.instanceMethod yX9_whom ∈ TB := inT3 (List.mem_of_getElem? (i := 106) rfl) rfl
set_option maxRecDepth 20000 in
theorem ke_X9_whom : Cond.selects RX9 yX9_whom yX9_whom ∈ TB := inT3 (List.mem_of_getElem? (i := 107) rfl) rfl
set_option maxRecDepth 20000 in
theorem kc_X9_whom : Cond.code yX9_whom cX9_whom 11 (some .int) ∈ TB := inT3 (List.mem_of_getElem? (i := 108) rfl) rfl
set_option maxRecDepth 20000 in
theorem kv_X9_232 : Cond.constantLong RX9 232 (-1) ∈ TB := inT3 (List.mem_of_getElem? (i := 109) rfl) rfl
set_option maxRecDepth 20000 in
theorem kl_L_97 : Cond.methodLink RL 97 yX9_two ∈ TB := inT3 (List.mem_of_getElem? (i := 110) rfl) rfl
set_option maxRecDepth 20000 in
theorem ki_X9_two : Cond.instanceMethod yX9_two ∈ TB := inT3 (List.mem_of_getElem? (i := 111) rfl) rfl
set_option maxRecDepth 20000 in
theorem ke_X9_two : Cond.selects RX9 yX9_two yX9_two ∈ TB := inT3 (List.mem_of_getElem? (i := 112) rfl) rfl
set_option maxRecDepth 20000 in
theorem kc_X9_two : Cond.code yX9_two cX9_two 14 (some .long) ∈ TB := inT3 (List.mem_of_getElem? (i := 113) rfl) rfl
set_option maxRecDepth 20000 in
theorem kl_L_102 : Cond.methodLink RL 102 yX9_said ∈ TB := inT3 (List.mem_of_getElem? (i := 114) rfl) rfl
set_option maxRecDepth 20000 in
theorem ki_X9_said : Cond.instanceMethod yX9_said ∈ TB := inT3 (List.mem_of_getElem? (i := 115) rfl) rfl
set_option maxRecDepth 20000 in
theorem ke_X9_said : Cond.selects RX9 yX9_said yX9_said ∈ TB := inT3 (List.mem_of_getElem? (i := 116) rfl) rfl
set_option maxRecDepth 20000 in
theorem kc_X9_said : Cond.code yX9_said cX9_said 7 (some .int) ∈ TB := inT3 (List.mem_of_getElem? (i := 117) rfl) rfl
set_option maxRecDepth 20000 in
theorem kl_X9_237 : Cond.methodLink RX9 237 yX8_worthOfSet ∈ TB := inT3 (List.mem_of_getElem? (i := 118) rfl) rfl
set_option maxRecDepth 20000 in
theorem ki_X8_worthOfSet : Cond.instanceMethod yX8_worthOfSet ∈ TB := inT3 (List.mem_of_getElem? (i := 119) rfl) rfl
set_option maxRecDepth 20000 in
theorem ke_X8_worthOfSet : Cond.selects RX8 yX8_worthOfSet yX8_worthOfSet ∈ TB := inT3 (List.mem_of_getElem? (i := 120) rfl) rfl
set_option maxRecDepth 20000 in
theorem kc_X8_worthOfSet : Cond.code yX8_worthOfSet cX8_worthOfSet 4 (some .int) ∈ TB := inT3 (List.mem_of_getElem? (i := 121) rfl) rfl
set_option maxRecDepth 20000 in
theorem kl_X8_104 : Cond.methodLink RX8 104 yX8_worthOf ∈ TB := inT3 (List.mem_of_getElem? (i := 122) rfl) rfl
set_option maxRecDepth 20000 in
theorem kl_X9_240 : Cond.methodLink RX9 240 yX8_flourOfSet ∈ TB := inT3 (List.mem_of_getElem? (i := 123) rfl) rfl
set_option maxRecDepth 20000 in
theorem ki_X8_flourOfSet : Cond.instanceMethod yX8_flourOfSet ∈ TB := inT3 (List.mem_of_getElem? (i := 124) rfl) rfl
set_option maxRecDepth 20000 in
theorem ke_X8_flourOfSet : Cond.selects RX8 yX8_flourOfSet yX8_flourOfSet ∈ TB := inT3 (List.mem_of_getElem? (i := 125) rfl) rfl
set_option maxRecDepth 20000 in
theorem kc_X8_flourOfSet : Cond.code yX8_flourOfSet cX8_flourOfSet 4 (some .int) ∈ TB := inT3 (List.mem_of_getElem? (i := 126) rfl) rfl
set_option maxRecDepth 20000 in
theorem kl_X8_107 : Cond.methodLink RX8 107 yX6_flour ∈ TB := inT3 (List.mem_of_getElem? (i := 127) rfl) rfl
set_option maxRecDepth 20000 in
theorem kl_L_106 : Cond.methodLink RL 106 yX9_told ∈ TB := inT3 (List.mem_of_getElem? (i := 128) rfl) rfl
set_option maxRecDepth 20000 in
theorem ki_X9_told : Cond.instanceMethod yX9_told ∈ TB := inT3 (List.mem_of_getElem? (i := 129) rfl) rfl
set_option maxRecDepth 20000 in
theorem ke_X9_told : Cond.selects RX9 yX9_told yX9_told ∈ TB := inT3 (List.mem_of_getElem? (i := 130) rfl) rfl
set_option maxRecDepth 20000 in
theorem kc_X9_told : Cond.code yX9_told cX9_told 4 (some .int) ∈ TB := inT3 (List.mem_of_getElem? (i := 131) rfl) rfl
set_option maxRecDepth 20000 in
theorem kl_X9_243 : Cond.methodLink RX9 243 yX8_bakersKnowing ∈ TB := inT3 (List.mem_of_getElem? (i := 132) rfl) rfl
set_option maxRecDepth 20000 in
theorem ki_X8_bakersKnowing : Cond.instanceMethod yX8_bakersKnowing ∈ TB := inT3 (List.mem_of_getElem? (i := 133) rfl) rfl
set_option maxRecDepth 20000 in
theorem ke_X8_bakersKnowing : Cond.selects RX8 yX8_bakersKnowing yX8_bakersKnowing ∈ TB := inT3 (List.mem_of_getElem? (i := 134) rfl) rfl
set_option maxRecDepth 20000 in
theorem kc_X8_bakersKnowing : Cond.code yX8_bakersKnowing cX8_bakersKnowing 4 (some .int) ∈ TB := inT3 (List.mem_of_getElem? (i := 135) rfl) rfl
set_option maxRecDepth 20000 in
theorem kl_X9_246 : Cond.methodLink RX9 246 yJ6_bitCount_0f7a4 ∈ TB := inT3 (List.mem_of_getElem? (i := 136) rfl) rfl
set_option maxRecDepth 20000 in
theorem ks_J6_bitCount_0f7a4 : Cond.static yJ6_bitCount_0f7a4 ∈ TB := inT3 (List.mem_of_getElem? (i := 137) rfl) rfl
set_option maxRecDepth 20000 in
theorem kc_J6_bitCount_0f7a4 : Cond.code yJ6_bitCount_0f7a4 cJ6_bitCount_0f7a4 1 (some .int) ∈ TB := inT3 (List.mem_of_getElem? (i := 138) rfl) rfl
set_option maxRecDepth 20000 in
theorem kv_J6_265 : Cond.constant RJ6 265 (1431655765) ∈ TB := inT3 (List.mem_of_getElem? (i := 139) rfl) rfl
set_option maxRecDepth 20000 in
theorem kv_J6_266 : Cond.constant RJ6 266 (858993459) ∈ TB := inT3 (List.mem_of_getElem? (i := 140) rfl) rfl
set_option maxRecDepth 20000 in
theorem kv_J6_267 : Cond.constant RJ6 267 (252645135) ∈ TB := inT3 (List.mem_of_getElem? (i := 141) rfl) rfl
set_option maxRecDepth 20000 in
theorem kl_X9_251 : Cond.methodLink RX9 251 yJ6_numberOfTrailingZeros_0f7a4 ∈ TB := inT3 (List.mem_of_getElem? (i := 142) rfl) rfl
set_option maxRecDepth 20000 in
theorem ks_J6_numberOfTrailingZeros_0f7a4 : Cond.static yJ6_numberOfTrailingZeros_0f7a4 ∈ TB := inT3 (List.mem_of_getElem? (i := 143) rfl) rfl
set_option maxRecDepth 20000 in
theorem kc_J6_numberOfTrailingZeros_0f7a4 : Cond.code yJ6_numberOfTrailingZeros_0f7a4 cJ6_numberOfTrailingZeros_0f7a4 2 (some .int) ∈ TB := inT3 (List.mem_of_getElem? (i := 144) rfl) rfl
set_option maxRecDepth 20000 in
theorem kv_J6_264 : Cond.constant RJ6 264 (65536) ∈ TB := inT3 (List.mem_of_getElem? (i := 145) rfl) rfl
set_option maxRecDepth 20000 in
theorem kl_L_110 : Cond.methodLink RL 110 yX9_month ∈ TB := inT3 (List.mem_of_getElem? (i := 146) rfl) rfl
set_option maxRecDepth 20000 in
theorem ki_X9_month : Cond.instanceMethod yX9_month ∈ TB := inT3 (List.mem_of_getElem? (i := 147) rfl) rfl
set_option maxRecDepth 20000 in
theorem ke_X9_month : Cond.selects RX9 yX9_month yX9_month ∈ TB := inT3 (List.mem_of_getElem? (i := 148) rfl) rfl
set_option maxRecDepth 20000 in
theorem kc_X9_month : Cond.code yX9_month cX9_month 10 (some .int) ∈ TB := inT3 (List.mem_of_getElem? (i := 149) rfl) rfl
set_option maxRecDepth 20000 in
theorem kl_X9_254 : Cond.methodLink RX9 254 yX9_drawOf ∈ TB := inT3 (List.mem_of_getElem? (i := 150) rfl) rfl
set_option maxRecDepth 20000 in
theorem ks_X9_drawOf : Cond.static yX9_drawOf ∈ TB := inT3 (List.mem_of_getElem? (i := 151) rfl) rfl
set_option maxRecDepth 20000 in
theorem kc_X9_drawOf : Cond.code yX9_drawOf cX9_drawOf 4 (some .int) ∈ TB := inT3 (List.mem_of_getElem? (i := 152) rfl) rfl
set_option maxRecDepth 20000 in
theorem kv_X9_266 : Cond.constantLong RX9 266 (7919) ∈ TB := inT3 (List.mem_of_getElem? (i := 153) rfl) rfl
set_option maxRecDepth 20000 in
theorem kv_X9_268 : Cond.constantLong RX9 268 (6151) ∈ TB := inT3 (List.mem_of_getElem? (i := 154) rfl) rfl
set_option maxRecDepth 20000 in
theorem kv_X9_270 : Cond.constantLong RX9 270 (65521) ∈ TB := inT3 (List.mem_of_getElem? (i := 155) rfl) rfl
set_option maxRecDepth 20000 in
theorem kl_L_114 : Cond.methodLink RL 114 yX9_keep ∈ TB := inT3 (List.mem_of_getElem? (i := 156) rfl) rfl
set_option maxRecDepth 20000 in
theorem ki_X9_keep : Cond.instanceMethod yX9_keep ∈ TB := inT3 (List.mem_of_getElem? (i := 157) rfl) rfl
set_option maxRecDepth 20000 in
theorem ke_X9_keep : Cond.selects RX9 yX9_keep yX9_keep ∈ TB := inT3 (List.mem_of_getElem? (i := 158) rfl) rfl
set_option maxRecDepth 20000 in
theorem kc_X9_keep : Cond.code yX9_keep cX9_keep 1 (some .int) ∈ TB := inT3 (List.mem_of_getElem? (i := 159) rfl) rfl
set_option maxRecDepth 20000 in
theorem kl_X9_260 : Cond.methodLink RX9 260 yX5_isFull ∈ TB := inT3 (List.mem_of_getElem? (i := 160) rfl) rfl
set_option maxRecDepth 20000 in
theorem kl_L_118 : Cond.methodLink RL 118 yX9_back ∈ TB := inT3 (List.mem_of_getElem? (i := 161) rfl) rfl
set_option maxRecDepth 20000 in
theorem ki_X9_back : Cond.instanceMethod yX9_back ∈ TB := inT3 (List.mem_of_getElem? (i := 162) rfl) rfl
set_option maxRecDepth 20000 in
theorem ke_X9_back : Cond.selects RX9 yX9_back yX9_back ∈ TB := inT3 (List.mem_of_getElem? (i := 163) rfl) rfl
set_option maxRecDepth 20000 in
theorem kc_X9_back : Cond.code yX9_back cX9_back 1 (some .int) ∈ TB := inT3 (List.mem_of_getElem? (i := 164) rfl) rfl
set_option maxRecDepth 20000 in
theorem kl_L_122 : Cond.methodLink RL 122 yX9_count ∈ TB := inT3 (List.mem_of_getElem? (i := 165) rfl) rfl
set_option maxRecDepth 20000 in
theorem ki_X9_count : Cond.instanceMethod yX9_count ∈ TB := inT3 (List.mem_of_getElem? (i := 166) rfl) rfl
set_option maxRecDepth 20000 in
theorem ke_X9_count : Cond.selects RX9 yX9_count yX9_count ∈ TB := inT3 (List.mem_of_getElem? (i := 167) rfl) rfl
set_option maxRecDepth 20000 in
theorem kc_X9_count : Cond.code yX9_count cX9_count 2 (some .int) ∈ TB := inT3 (List.mem_of_getElem? (i := 168) rfl) rfl
set_option maxRecDepth 20000 in
theorem kl_X9_261 : Cond.methodLink RX9 261 yX8_bakers ∈ TB := inT3 (List.mem_of_getElem? (i := 169) rfl) rfl
set_option maxRecDepth 20000 in
theorem ki_X8_bakers : Cond.instanceMethod yX8_bakers ∈ TB := inT3 (List.mem_of_getElem? (i := 170) rfl) rfl
set_option maxRecDepth 20000 in
theorem ke_X8_bakers : Cond.selects RX8 yX8_bakers yX8_bakers ∈ TB := inT3 (List.mem_of_getElem? (i := 171) rfl) rfl
set_option maxRecDepth 20000 in
theorem kc_X8_bakers : Cond.code yX8_bakers cX8_bakers 1 (some .int) ∈ TB := inT3 (List.mem_of_getElem? (i := 172) rfl) rfl
set_option maxRecDepth 20000 in
theorem kl_X9_264 : Cond.methodLink RX9 264 yX1_flour ∈ TB := inT3 (List.mem_of_getElem? (i := 173) rfl) rfl
set_option maxRecDepth 20000 in
theorem ki_X1_flour : Cond.instanceMethod yX1_flour ∈ TB := inT3 (List.mem_of_getElem? (i := 174) rfl) rfl
set_option maxRecDepth 20000 in
theorem ke_X1_flour : Cond.selects RX1 yX1_flour yX1_flour ∈ TB := inT3 (List.mem_of_getElem? (i := 175) rfl) rfl
set_option maxRecDepth 20000 in
theorem kc_X1_flour : Cond.code yX1_flour cX1_flour 1 (some .int) ∈ TB := inT3 (List.mem_of_getElem? (i := 176) rfl) rfl
set_option maxRecDepth 20000 in
theorem kk_L_10 : Cond.classLink RL 10 RX10 ∈ TB := inT3 (List.mem_of_getElem? (i := 177) rfl) rfl
set_option maxRecDepth 20000 in
theorem kb_X10 : Cond.instantiable RX10 22 ∈ TB := inT3 (List.mem_of_getElem? (i := 178) rfl) rfl
set_option maxRecDepth 20000 in
theorem kl_L_12 : Cond.methodLink RL 12 yX10_init ∈ TB := inT3 (List.mem_of_getElem? (i := 179) rfl) rfl
set_option maxRecDepth 20000 in
theorem ki_X10_init : Cond.instanceMethod yX10_init ∈ TB := inT3 (List.mem_of_getElem? (i := 180) rfl) rfl
set_option maxRecDepth 20000 in
theorem kc_X10_init : Cond.code yX10_init cX10_init 1 none ∈ TB := inT3 (List.mem_of_getElem? (i := 181) rfl) rfl
set_option maxRecDepth 20000 in
theorem kl_X10_1 : Cond.methodLink RX10 1 objectInit ∈ TB := inT3 (List.mem_of_getElem? (i := 182) rfl) rfl
set_option maxRecDepth 20000 in
theorem kl_X10_57 : Cond.methodLink RX10 57 yX10_begins ∈ TB := inT3 (List.mem_of_getElem? (i := 183) rfl) rfl
set_option maxRecDepth 20000 in
theorem ki_X10_begins : Cond.instanceMethod yX10_begins ∈ TB := inT3 (List.mem_of_getElem? (i := 185) rfl) rfl
set_option maxRecDepth 20000 in
theorem kc_X10_begins : Cond.code yX10_begins cX10_begins 1 none ∈ TB := inT3 (List.mem_of_getElem? (i := 186) rfl) rfl
set_option maxRecDepth 20000 in
theorem kl_X10_60 : Cond.methodLink RX10 60 yX10_takes ∈ TB := inT3 (List.mem_of_getElem? (i := 187) rfl) rfl
set_option maxRecDepth 20000 in
theorem ki_X10_takes : Cond.instanceMethod yX10_takes ∈ TB := inT3 (List.mem_of_getElem? (i := 189) rfl) rfl
set_option maxRecDepth 20000 in
theorem kc_X10_takes : Cond.code yX10_takes cX10_takes 2 none ∈ TB := inT3 (List.mem_of_getElem? (i := 190) rfl) rfl
set_option maxRecDepth 20000 in
theorem kf_X10_69 : Cond.fieldLink RX10 69 "LoafLettersModel" "length" "I" ∈ TB := inT3 (List.mem_of_getElem? (i := 191) rfl) rfl
set_option maxRecDepth 20000 in
theorem kf_X10_7 : Cond.fieldLink RX10 7 "LoafLettersModel" "text" "[B" ∈ TB := inT3 (List.mem_of_getElem? (i := 192) rfl) rfl
set_option maxRecDepth 20000 in
theorem kf_X10_73 : Cond.fieldLink RX10 73 "LoafLettersModel" "at" "I" ∈ TB := inT3 (List.mem_of_getElem? (i := 193) rfl) rfl
set_option maxRecDepth 20000 in
theorem kf_X10_13 : Cond.fieldLink RX10 13 "LoafLettersModel" "told" "[I" ∈ TB := inT3 (List.mem_of_getElem? (i := 194) rfl) rfl
set_option maxRecDepth 20000 in
theorem kf_X10_17 : Cond.fieldLink RX10 17 "LoafLettersModel" "words" "[I" ∈ TB := inT3 (List.mem_of_getElem? (i := 195) rfl) rfl
set_option maxRecDepth 20000 in
theorem kf_X10_20 : Cond.fieldLink RX10 20 "LoafLettersModel" "word" "[I" ∈ TB := inT3 (List.mem_of_getElem? (i := 196) rfl) rfl
set_option maxRecDepth 20000 in
theorem kf_X10_23 : Cond.fieldLink RX10 23 "LoafLettersModel" "carriers" "[I" ∈ TB := inT3 (List.mem_of_getElem? (i := 197) rfl) rfl
set_option maxRecDepth 20000 in
theorem kf_X10_26 : Cond.fieldLink RX10 26 "LoafLettersModel" "carrier" "[I" ∈ TB := inT3 (List.mem_of_getElem? (i := 198) rfl) rfl
set_option maxRecDepth 20000 in
theorem kf_X10_29 : Cond.fieldLink RX10 29 "LoafLettersModel" "bakers" "[I" ∈ TB := inT3 (List.mem_of_getElem? (i := 199) rfl) rfl
set_option maxRecDepth 20000 in
theorem kf_X10_32 : Cond.fieldLink RX10 32 "LoafLettersModel" "baker" "[I" ∈ TB := inT3 (List.mem_of_getElem? (i := 200) rfl) rfl
set_option maxRecDepth 20000 in
theorem kf_X10_35 : Cond.fieldLink RX10 35 "LoafLettersModel" "loaves" "[I" ∈ TB := inT3 (List.mem_of_getElem? (i := 201) rfl) rfl
set_option maxRecDepth 20000 in
theorem kf_X10_38 : Cond.fieldLink RX10 38 "LoafLettersModel" "loaf" "[I" ∈ TB := inT3 (List.mem_of_getElem? (i := 202) rfl) rfl
set_option maxRecDepth 20000 in
theorem kf_X10_41 : Cond.fieldLink RX10 41 "LoafLettersModel" "flour" "[I" ∈ TB := inT3 (List.mem_of_getElem? (i := 203) rfl) rfl
set_option maxRecDepth 20000 in
theorem kf_X10_101 : Cond.fieldLink RX10 101 "LoafLettersModel" "kept" "I" ∈ TB := inT3 (List.mem_of_getElem? (i := 204) rfl) rfl
set_option maxRecDepth 20000 in
theorem kf_X10_98 : Cond.fieldLink RX10 98 "LoafLettersModel" "done" "I" ∈ TB := inT3 (List.mem_of_getElem? (i := 205) rfl) rfl
set_option maxRecDepth 20000 in
theorem kf_X10_44 : Cond.fieldLink RX10 44 "LoafLettersModel" "did" "[I" ∈ TB := inT3 (List.mem_of_getElem? (i := 206) rfl) rfl
set_option maxRecDepth 20000 in
theorem kf_X10_47 : Cond.fieldLink RX10 47 "LoafLettersModel" "reach" "[Z" ∈ TB := inT3 (List.mem_of_getElem? (i := 207) rfl) rfl
set_option maxRecDepth 20000 in
theorem kf_X10_51 : Cond.fieldLink RX10 51 "LoafLettersModel" "best" "[I" ∈ TB := inT3 (List.mem_of_getElem? (i := 208) rfl) rfl
set_option maxRecDepth 20000 in
theorem kf_X10_188 : Cond.fieldLink RX10 188 "LoafLettersModel" "above" "J" ∈ TB := inT3 (List.mem_of_getElem? (i := 209) rfl) rfl
set_option maxRecDepth 20000 in
theorem kf_X10_192 : Cond.fieldLink RX10 192 "LoafLettersModel" "below" "J" ∈ TB := inT3 (List.mem_of_getElem? (i := 210) rfl) rfl
set_option maxRecDepth 20000 in
theorem kf_X10_54 : Cond.fieldLink RX10 54 "LoafLettersModel" "got" "[I" ∈ TB := inT3 (List.mem_of_getElem? (i := 211) rfl) rfl
set_option maxRecDepth 20000 in
theorem kf_X10_170 : Cond.fieldLink RX10 170 "LoafLettersModel" "codeLeast" "I" ∈ TB := inT3 (List.mem_of_getElem? (i := 212) rfl) rfl
set_option maxRecDepth 20000 in
theorem ka_boolean : Cond.arrayClass .boolean ∈ TB := inT4 (List.mem_of_getElem? (i := 18) rfl) rfl
set_option maxRecDepth 20000 in
theorem kl_L_19 : Cond.methodLink RL 19 yX10_write ∈ TB := inT4 (List.mem_of_getElem? (i := 19) rfl) rfl
set_option maxRecDepth 20000 in
theorem ki_X10_write : Cond.instanceMethod yX10_write ∈ TB := inT4 (List.mem_of_getElem? (i := 20) rfl) rfl
set_option maxRecDepth 20000 in
theorem ke_X10_write : Cond.selects RX10 yX10_write yX10_write ∈ TB := inT4 (List.mem_of_getElem? (i := 21) rfl) rfl
set_option maxRecDepth 20000 in
theorem kc_X10_write : Cond.code yX10_write cX10_write 5 (some .int) ∈ TB := inT4 (List.mem_of_getElem? (i := 22) rfl) rfl
set_option maxRecDepth 20000 in
theorem kv_X10_63 : Cond.constantLong RX10 63 (8) ∈ TB := inT4 (List.mem_of_getElem? (i := 23) rfl) rfl
set_option maxRecDepth 20000 in
theorem kl_X10_65 : Cond.methodLink RX10 65 yX10_in ∈ TB := inT4 (List.mem_of_getElem? (i := 24) rfl) rfl
set_option maxRecDepth 20000 in
theorem ks_X10_in : Cond.static yX10_in ∈ TB := inT4 (List.mem_of_getElem? (i := 25) rfl) rfl
set_option maxRecDepth 20000 in
theorem kc_X10_in : Cond.code yX10_in cX10_in 6 (some .boolean) ∈ TB := inT4 (List.mem_of_getElem? (i := 26) rfl) rfl
set_option maxRecDepth 20000 in
theorem kl_L_24 : Cond.methodLink RL 24 yX10_wipe ∈ TB := inT4 (List.mem_of_getElem? (i := 27) rfl) rfl
set_option maxRecDepth 20000 in
theorem ki_X10_wipe : Cond.instanceMethod yX10_wipe ∈ TB := inT4 (List.mem_of_getElem? (i := 28) rfl) rfl
set_option maxRecDepth 20000 in
theorem ke_X10_wipe : Cond.selects RX10 yX10_wipe yX10_wipe ∈ TB := inT4 (List.mem_of_getElem? (i := 29) rfl) rfl
set_option maxRecDepth 20000 in
theorem kc_X10_wipe : Cond.code yX10_wipe cX10_wipe 2 (some .int) ∈ TB := inT4 (List.mem_of_getElem? (i := 30) rfl) rfl
set_option maxRecDepth 20000 in
theorem kl_L_28 : Cond.methodLink RL 28 yX10_fault ∈ TB := inT4 (List.mem_of_getElem? (i := 31) rfl) rfl
set_option maxRecDepth 20000 in
theorem ki_X10_fault : Cond.instanceMethod yX10_fault ∈ TB := inT4 (List.mem_of_getElem? (i := 32) rfl) rfl
set_option maxRecDepth 20000 in
theorem ke_X10_fault : Cond.selects RX10 yX10_fault yX10_fault ∈ TB := inT4 (List.mem_of_getElem? (i := 33) rfl) rfl
set_option maxRecDepth 20000 in
theorem kc_X10_fault : Cond.code yX10_fault cX10_fault 2 (some .int) ∈ TB := inT4 (List.mem_of_getElem? (i := 34) rfl) rfl
set_option maxRecDepth 20000 in
theorem kl_X10_104 : Cond.methodLink RX10 104 yX10_isItem ∈ TB := inT4 (List.mem_of_getElem? (i := 35) rfl) rfl
set_option maxRecDepth 20000 in
theorem ki_X10_isItem : Cond.instanceMethod yX10_isItem ∈ TB := inT4 (List.mem_of_getElem? (i := 37) rfl) rfl
set_option maxRecDepth 20000 in
theorem kc_X10_isItem : Cond.code yX10_isItem cX10_isItem 5 (some .boolean) ∈ TB := inT4 (List.mem_of_getElem? (i := 38) rfl) rfl
set_option maxRecDepth 20000 in
theorem kl_X10_82 : Cond.methodLink RX10 82 yX10_parts ∈ TB := inT4 (List.mem_of_getElem? (i := 39) rfl) rfl
set_option maxRecDepth 20000 in
theorem ks_X10_parts : Cond.static yX10_parts ∈ TB := inT4 (List.mem_of_getElem? (i := 40) rfl) rfl
set_option maxRecDepth 20000 in
theorem kc_X10_parts : Cond.code yX10_parts cX10_parts 1 (some .int) ∈ TB := inT4 (List.mem_of_getElem? (i := 41) rfl) rfl
set_option maxRecDepth 20000 in
theorem kl_X10_86 : Cond.methodLink RX10 86 yX10_number ∈ TB := inT4 (List.mem_of_getElem? (i := 42) rfl) rfl
set_option maxRecDepth 20000 in
theorem ki_X10_number : Cond.instanceMethod yX10_number ∈ TB := inT4 (List.mem_of_getElem? (i := 44) rfl) rfl
set_option maxRecDepth 20000 in
theorem kc_X10_number : Cond.code yX10_number cX10_number 3 (some .int) ∈ TB := inT4 (List.mem_of_getElem? (i := 45) rfl) rfl
set_option maxRecDepth 20000 in
theorem kv_X10_76 : Cond.constantLong RX10 76 (48) ∈ TB := inT4 (List.mem_of_getElem? (i := 46) rfl) rfl
set_option maxRecDepth 20000 in
theorem kv_X10_78 : Cond.constantLong RX10 78 (57) ∈ TB := inT4 (List.mem_of_getElem? (i := 47) rfl) rfl
set_option maxRecDepth 20000 in
theorem kv_X10_80 : Cond.constantLong RX10 80 (2) ∈ TB := inT4 (List.mem_of_getElem? (i := 48) rfl) rfl
set_option maxRecDepth 20000 in
theorem kl_X10_90 : Cond.methodLink RX10 90 yX10_isGood ∈ TB := inT4 (List.mem_of_getElem? (i := 49) rfl) rfl
set_option maxRecDepth 20000 in
theorem ki_X10_isGood : Cond.instanceMethod yX10_isGood ∈ TB := inT4 (List.mem_of_getElem? (i := 51) rfl) rfl
set_option maxRecDepth 20000 in
theorem kc_X10_isGood : Cond.code yX10_isGood cX10_isGood 5 (some .boolean) ∈ TB := inT4 (List.mem_of_getElem? (i := 52) rfl) rfl
set_option maxRecDepth 20000 in
theorem kl_X10_94 : Cond.methodLink RX10 94 yX10_isIn ∈ TB := inT4 (List.mem_of_getElem? (i := 53) rfl) rfl
set_option maxRecDepth 20000 in
theorem ki_X10_isIn : Cond.instanceMethod yX10_isIn ∈ TB := inT4 (List.mem_of_getElem? (i := 55) rfl) rfl
set_option maxRecDepth 20000 in
theorem kc_X10_isIn : Cond.code yX10_isIn cX10_isIn 4 (some .boolean) ∈ TB := inT4 (List.mem_of_getElem? (i := 56) rfl) rfl
set_option maxRecDepth 20000 in
theorem kl_L_32 : Cond.methodLink RL 32 yX10_lay ∈ TB := inT4 (List.mem_of_getElem? (i := 57) rfl) rfl
set_option maxRecDepth 20000 in
theorem ki_X10_lay : Cond.instanceMethod yX10_lay ∈ TB := inT4 (List.mem_of_getElem? (i := 58) rfl) rfl
set_option maxRecDepth 20000 in
theorem ke_X10_lay : Cond.selects RX10 yX10_lay yX10_lay ∈ TB := inT4 (List.mem_of_getElem? (i := 59) rfl) rfl
set_option maxRecDepth 20000 in
theorem kc_X10_lay : Cond.code yX10_lay cX10_lay 1 (some .int) ∈ TB := inT4 (List.mem_of_getElem? (i := 60) rfl) rfl
set_option maxRecDepth 20000 in
theorem kl_X10_108 : Cond.methodLink RX10 108 yX10_fault ∈ TB := inT4 (List.mem_of_getElem? (i := 61) rfl) rfl
set_option maxRecDepth 20000 in
theorem kl_L_37 : Cond.methodLink RL 37 yX10_word ∈ TB := inT4 (List.mem_of_getElem? (i := 62) rfl) rfl
set_option maxRecDepth 20000 in
theorem ki_X10_word : Cond.instanceMethod yX10_word ∈ TB := inT4 (List.mem_of_getElem? (i := 63) rfl) rfl
set_option maxRecDepth 20000 in
theorem ke_X10_word : Cond.selects RX10 yX10_word yX10_word ∈ TB := inT4 (List.mem_of_getElem? (i := 64) rfl) rfl
set_option maxRecDepth 20000 in
theorem kc_X10_word : Cond.code yX10_word cX10_word 3 (some .int) ∈ TB := inT4 (List.mem_of_getElem? (i := 65) rfl) rfl
set_option maxRecDepth 20000 in
theorem kl_X10_111 : Cond.methodLink RX10 111 yX10_isWord ∈ TB := inT4 (List.mem_of_getElem? (i := 66) rfl) rfl
set_option maxRecDepth 20000 in
theorem ki_X10_isWord : Cond.instanceMethod yX10_isWord ∈ TB := inT4 (List.mem_of_getElem? (i := 68) rfl) rfl
set_option maxRecDepth 20000 in
theorem kc_X10_isWord : Cond.code yX10_isWord cX10_isWord 2 (some .boolean) ∈ TB := inT4 (List.mem_of_getElem? (i := 69) rfl) rfl
set_option maxRecDepth 20000 in
theorem kl_X10_114 : Cond.methodLink RX10 114 yX10_flourOf ∈ TB := inT4 (List.mem_of_getElem? (i := 70) rfl) rfl
set_option maxRecDepth 20000 in
theorem ks_X10_flourOf : Cond.static yX10_flourOf ∈ TB := inT4 (List.mem_of_getElem? (i := 71) rfl) rfl
set_option maxRecDepth 20000 in
theorem kc_X10_flourOf : Cond.code yX10_flourOf cX10_flourOf 1 (some .int) ∈ TB := inT4 (List.mem_of_getElem? (i := 72) rfl) rfl
set_option maxRecDepth 20000 in
theorem kl_L_41 : Cond.methodLink RL 41 yX10_bake ∈ TB := inT4 (List.mem_of_getElem? (i := 73) rfl) rfl
set_option maxRecDepth 20000 in
theorem ki_X10_bake : Cond.instanceMethod yX10_bake ∈ TB := inT4 (List.mem_of_getElem? (i := 74) rfl) rfl
set_option maxRecDepth 20000 in
theorem ke_X10_bake : Cond.selects RX10 yX10_bake yX10_bake ∈ TB := inT4 (List.mem_of_getElem? (i := 75) rfl) rfl
set_option maxRecDepth 20000 in
theorem kc_X10_bake : Cond.code yX10_bake cX10_bake 4 (some .int) ∈ TB := inT4 (List.mem_of_getElem? (i := 76) rfl) rfl
set_option maxRecDepth 20000 in
theorem kv_X10_131 : Cond.constantLong RX10 131 (3) ∈ TB := inT4 (List.mem_of_getElem? (i := 77) rfl) rfl
set_option maxRecDepth 20000 in
theorem kl_X10_133 : Cond.methodLink RX10 133 yX10_used ∈ TB := inT4 (List.mem_of_getElem? (i := 78) rfl) rfl
set_option maxRecDepth 20000 in
theorem ki_X10_used : Cond.instanceMethod yX10_used ∈ TB := inT4 (List.mem_of_getElem? (i := 80) rfl) rfl
set_option maxRecDepth 20000 in
theorem kc_X10_used : Cond.code yX10_used cX10_used 4 (some .int) ∈ TB := inT4 (List.mem_of_getElem? (i := 81) rfl) rfl
set_option maxRecDepth 20000 in
theorem kl_X10_124 : Cond.methodLink RX10 124 yX10_baked ∈ TB := inT4 (List.mem_of_getElem? (i := 82) rfl) rfl
set_option maxRecDepth 20000 in
theorem ki_X10_baked : Cond.instanceMethod yX10_baked ∈ TB := inT4 (List.mem_of_getElem? (i := 84) rfl) rfl
set_option maxRecDepth 20000 in
theorem kc_X10_baked : Cond.code yX10_baked cX10_baked 3 (some .int) ∈ TB := inT4 (List.mem_of_getElem? (i := 85) rfl) rfl
set_option maxRecDepth 20000 in
theorem kl_X10_136 : Cond.methodLink RX10 136 yX10_known ∈ TB := inT4 (List.mem_of_getElem? (i := 86) rfl) rfl
set_option maxRecDepth 20000 in
theorem ki_X10_known : Cond.instanceMethod yX10_known ∈ TB := inT4 (List.mem_of_getElem? (i := 88) rfl) rfl
set_option maxRecDepth 20000 in
theorem kc_X10_known : Cond.code yX10_known cX10_known 4 none ∈ TB := inT4 (List.mem_of_getElem? (i := 89) rfl) rfl
set_option maxRecDepth 20000 in
theorem kl_L_45 : Cond.methodLink RL 45 yX10_day ∈ TB := inT4 (List.mem_of_getElem? (i := 90) rfl) rfl
set_option maxRecDepth 20000 in
theorem ki_X10_day : Cond.instanceMethod yX10_day ∈ TB := inT4 (List.mem_of_getElem? (i := 91) rfl) rfl
set_option maxRecDepth 20000 in
theorem ke_X10_day : Cond.selects RX10 yX10_day yX10_day ∈ TB := inT4 (List.mem_of_getElem? (i := 92) rfl) rfl
set_option maxRecDepth 20000 in
theorem kc_X10_day : Cond.code yX10_day cX10_day 3 (some .int) ∈ TB := inT4 (List.mem_of_getElem? (i := 93) rfl) rfl
set_option maxRecDepth 20000 in
theorem kl_X10_140 : Cond.methodLink RX10 140 yX10_ages ∈ TB := inT4 (List.mem_of_getElem? (i := 94) rfl) rfl
set_option maxRecDepth 20000 in
theorem ki_X10_ages : Cond.instanceMethod yX10_ages ∈ TB := inT4 (List.mem_of_getElem? (i := 96) rfl) rfl
set_option maxRecDepth 20000 in
theorem kc_X10_ages : Cond.code yX10_ages cX10_ages 3 none ∈ TB := inT4 (List.mem_of_getElem? (i := 97) rfl) rfl
set_option maxRecDepth 20000 in
theorem kl_X10_144 : Cond.methodLink RX10 144 yX10_hasNow ∈ TB := inT4 (List.mem_of_getElem? (i := 98) rfl) rfl
set_option maxRecDepth 20000 in
theorem ki_X10_hasNow : Cond.instanceMethod yX10_hasNow ∈ TB := inT4 (List.mem_of_getElem? (i := 100) rfl) rfl
set_option maxRecDepth 20000 in
theorem kc_X10_hasNow : Cond.code yX10_hasNow cX10_hasNow 4 (some .int) ∈ TB := inT4 (List.mem_of_getElem? (i := 101) rfl) rfl
set_option maxRecDepth 20000 in
theorem kl_X10_127 : Cond.methodLink RX10 127 yX10_become ∈ TB := inT4 (List.mem_of_getElem? (i := 102) rfl) rfl
set_option maxRecDepth 20000 in
theorem ki_X10_become : Cond.instanceMethod yX10_become ∈ TB := inT4 (List.mem_of_getElem? (i := 104) rfl) rfl
set_option maxRecDepth 20000 in
theorem kc_X10_become : Cond.code yX10_become cX10_become 4 (some .int) ∈ TB := inT4 (List.mem_of_getElem? (i := 105) rfl) rfl
set_option maxRecDepth 20000 in
theorem kl_X10_117 : Cond.methodLink RX10 117 yX10_aged ∈ TB := inT4 (List.mem_of_getElem? (i := 106) rfl) rfl
set_option maxRecDepth 20000 in
theorem ki_X10_aged : Cond.instanceMethod yX10_aged ∈ TB := inT4 (List.mem_of_getElem? (i := 108) rfl) rfl
set_option maxRecDepth 20000 in
theorem kc_X10_aged : Cond.code yX10_aged cX10_aged 5 (some .int) ∈ TB := inT4 (List.mem_of_getElem? (i := 109) rfl) rfl
set_option maxRecDepth 20000 in
theorem kl_X10_121 : Cond.methodLink RX10 121 yX10_bitten ∈ TB := inT4 (List.mem_of_getElem? (i := 110) rfl) rfl
set_option maxRecDepth 20000 in
theorem ks_X10_bitten : Cond.static yX10_bitten ∈ TB := inT4 (List.mem_of_getElem? (i := 111) rfl) rfl
set_option maxRecDepth 20000 in
theorem kc_X10_bitten : Cond.code yX10_bitten cX10_bitten 4 (some .int) ∈ TB := inT4 (List.mem_of_getElem? (i := 112) rfl) rfl
set_option maxRecDepth 20000 in
theorem kl_X10_147 : Cond.methodLink RX10 147 yX10_read ∈ TB := inT4 (List.mem_of_getElem? (i := 113) rfl) rfl
set_option maxRecDepth 20000 in
theorem ki_X10_read : Cond.instanceMethod yX10_read ∈ TB := inT4 (List.mem_of_getElem? (i := 115) rfl) rfl
set_option maxRecDepth 20000 in
theorem kc_X10_read : Cond.code yX10_read cX10_read 3 (some .int) ∈ TB := inT4 (List.mem_of_getElem? (i := 116) rfl) rfl
set_option maxRecDepth 20000 in
theorem kl_L_50 : Cond.methodLink RL 50 yX10_bite ∈ TB := inT4 (List.mem_of_getElem? (i := 117) rfl) rfl
set_option maxRecDepth 20000 in
theorem ki_X10_bite : Cond.instanceMethod yX10_bite ∈ TB := inT4 (List.mem_of_getElem? (i := 118) rfl) rfl
set_option maxRecDepth 20000 in
theorem ke_X10_bite : Cond.selects RX10 yX10_bite yX10_bite ∈ TB := inT4 (List.mem_of_getElem? (i := 119) rfl) rfl
set_option maxRecDepth 20000 in
theorem kc_X10_bite : Cond.code yX10_bite cX10_bite 2 (some .int) ∈ TB := inT4 (List.mem_of_getElem? (i := 120) rfl) rfl
set_option maxRecDepth 20000 in
theorem kl_X10_150 : Cond.methodLink RX10 150 yX10_isLoaf ∈ TB := inT4 (List.mem_of_getElem? (i := 121) rfl) rfl
set_option maxRecDepth 20000 in
theorem ki_X10_isLoaf : Cond.instanceMethod yX10_isLoaf ∈ TB := inT4 (List.mem_of_getElem? (i := 123) rfl) rfl
set_option maxRecDepth 20000 in
theorem kc_X10_isLoaf : Cond.code yX10_isLoaf cX10_isLoaf 2 (some .boolean) ∈ TB := inT4 (List.mem_of_getElem? (i := 124) rfl) rfl
set_option maxRecDepth 20000 in
theorem kl_L_54 : Cond.methodLink RL 54 yX10_take ∈ TB := inT4 (List.mem_of_getElem? (i := 125) rfl) rfl
set_option maxRecDepth 20000 in
theorem ki_X10_take : Cond.instanceMethod yX10_take ∈ TB := inT4 (List.mem_of_getElem? (i := 126) rfl) rfl
set_option maxRecDepth 20000 in
theorem ke_X10_take : Cond.selects RX10 yX10_take yX10_take ∈ TB := inT4 (List.mem_of_getElem? (i := 127) rfl) rfl
set_option maxRecDepth 20000 in
theorem kc_X10_take : Cond.code yX10_take cX10_take 4 (some .int) ∈ TB := inT4 (List.mem_of_getElem? (i := 128) rfl) rfl
set_option maxRecDepth 20000 in
theorem kl_L_58 : Cond.methodLink RL 58 yX10_undo ∈ TB := inT4 (List.mem_of_getElem? (i := 129) rfl) rfl
set_option maxRecDepth 20000 in
theorem ki_X10_undo : Cond.instanceMethod yX10_undo ∈ TB := inT4 (List.mem_of_getElem? (i := 130) rfl) rfl
set_option maxRecDepth 20000 in
theorem ke_X10_undo : Cond.selects RX10 yX10_undo yX10_undo ∈ TB := inT4 (List.mem_of_getElem? (i := 131) rfl) rfl
set_option maxRecDepth 20000 in
theorem kc_X10_undo : Cond.code yX10_undo cX10_undo 4 (some .int) ∈ TB := inT4 (List.mem_of_getElem? (i := 132) rfl) rfl
set_option maxRecDepth 20000 in
theorem kl_L_62 : Cond.methodLink RL 62 yX10_loaf ∈ TB := inT4 (List.mem_of_getElem? (i := 133) rfl) rfl
set_option maxRecDepth 20000 in
theorem ki_X10_loaf : Cond.instanceMethod yX10_loaf ∈ TB := inT4 (List.mem_of_getElem? (i := 134) rfl) rfl
set_option maxRecDepth 20000 in
theorem ke_X10_loaf : Cond.selects RX10 yX10_loaf yX10_loaf ∈ TB := inT4 (List.mem_of_getElem? (i := 135) rfl) rfl
set_option maxRecDepth 20000 in
theorem kc_X10_loaf : Cond.code yX10_loaf cX10_loaf 3 (some .int) ∈ TB := inT4 (List.mem_of_getElem? (i := 136) rfl) rfl
set_option maxRecDepth 20000 in
theorem kv_X10_153 : Cond.constantLong RX10 153 (5) ∈ TB := inT4 (List.mem_of_getElem? (i := 137) rfl) rfl
set_option maxRecDepth 20000 in
theorem kl_L_67 : Cond.methodLink RL 67 yX10_becomes ∈ TB := inT4 (List.mem_of_getElem? (i := 138) rfl) rfl
set_option maxRecDepth 20000 in
theorem ki_X10_becomes : Cond.instanceMethod yX10_becomes ∈ TB := inT4 (List.mem_of_getElem? (i := 139) rfl) rfl
set_option maxRecDepth 20000 in
theorem ke_X10_becomes : Cond.selects RX10 yX10_becomes yX10_becomes ∈ TB := inT4 (List.mem_of_getElem? (i := 140) rfl) rfl
set_option maxRecDepth 20000 in
theorem kc_X10_becomes : Cond.code yX10_becomes cX10_becomes 4 (some .int) ∈ TB := inT4 (List.mem_of_getElem? (i := 141) rfl) rfl
set_option maxRecDepth 20000 in
theorem kl_X10_159 : Cond.methodLink RX10 159 yX10_isSign ∈ TB := inT4 (List.mem_of_getElem? (i := 142) rfl) rfl
set_option maxRecDepth 20000 in
theorem ks_X10_isSign : Cond.static yX10_isSign ∈ TB := inT4 (List.mem_of_getElem? (i := 143) rfl) rfl
set_option maxRecDepth 20000 in
theorem kc_X10_isSign : Cond.code yX10_isSign cX10_isSign 1 (some .boolean) ∈ TB := inT4 (List.mem_of_getElem? (i := 144) rfl) rfl
set_option maxRecDepth 20000 in
theorem kv_X10_155 : Cond.constantLong RX10 155 (71) ∈ TB := inT4 (List.mem_of_getElem? (i := 145) rfl) rfl
set_option maxRecDepth 20000 in
theorem kl_X10_162 : Cond.methodLink RX10 162 yX10_isSpan ∈ TB := inT4 (List.mem_of_getElem? (i := 146) rfl) rfl
set_option maxRecDepth 20000 in
theorem ks_X10_isSpan : Cond.static yX10_isSpan ∈ TB := inT4 (List.mem_of_getElem? (i := 147) rfl) rfl
set_option maxRecDepth 20000 in
theorem kc_X10_isSpan : Cond.code yX10_isSpan cX10_isSpan 2 (some .boolean) ∈ TB := inT4 (List.mem_of_getElem? (i := 148) rfl) rfl
set_option maxRecDepth 20000 in
theorem kv_X10_157 : Cond.constantLong RX10 157 (20) ∈ TB := inT4 (List.mem_of_getElem? (i := 149) rfl) rfl
set_option maxRecDepth 20000 in
theorem kl_L_71 : Cond.methodLink RL 71 yX10_mayBe ∈ TB := inT4 (List.mem_of_getElem? (i := 150) rfl) rfl
set_option maxRecDepth 20000 in
theorem ki_X10_mayBe : Cond.instanceMethod yX10_mayBe ∈ TB := inT4 (List.mem_of_getElem? (i := 151) rfl) rfl
set_option maxRecDepth 20000 in
theorem ke_X10_mayBe : Cond.selects RX10 yX10_mayBe yX10_mayBe ∈ TB := inT4 (List.mem_of_getElem? (i := 152) rfl) rfl
set_option maxRecDepth 20000 in
theorem kc_X10_mayBe : Cond.code yX10_mayBe cX10_mayBe 6 (some .int) ∈ TB := inT4 (List.mem_of_getElem? (i := 153) rfl) rfl
set_option maxRecDepth 20000 in
theorem kl_X10_166 : Cond.methodLink RX10 166 yX10_isAble ∈ TB := inT4 (List.mem_of_getElem? (i := 154) rfl) rfl
set_option maxRecDepth 20000 in
theorem ki_X10_isAble : Cond.instanceMethod yX10_isAble ∈ TB := inT4 (List.mem_of_getElem? (i := 156) rfl) rfl
set_option maxRecDepth 20000 in
theorem kc_X10_isAble : Cond.code yX10_isAble cX10_isAble 7 (some .boolean) ∈ TB := inT4 (List.mem_of_getElem? (i := 157) rfl) rfl
set_option maxRecDepth 20000 in
theorem kl_L_76 : Cond.methodLink RL 76 yX10_can ∈ TB := inT4 (List.mem_of_getElem? (i := 158) rfl) rfl
set_option maxRecDepth 20000 in
theorem ki_X10_can : Cond.instanceMethod yX10_can ∈ TB := inT4 (List.mem_of_getElem? (i := 159) rfl) rfl
set_option maxRecDepth 20000 in
theorem ke_X10_can : Cond.selects RX10 yX10_can yX10_can ∈ TB := inT4 (List.mem_of_getElem? (i := 160) rfl) rfl
set_option maxRecDepth 20000 in
theorem kc_X10_can : Cond.code yX10_can cX10_can 5 (some .int) ∈ TB := inT4 (List.mem_of_getElem? (i := 161) rfl) rfl
set_option maxRecDepth 20000 in
theorem kl_L_80 : Cond.methodLink RL 80 yX10_was ∈ TB := inT4 (List.mem_of_getElem? (i := 162) rfl) rfl
set_option maxRecDepth 20000 in
theorem ki_X10_was : Cond.instanceMethod yX10_was ∈ TB := inT4 (List.mem_of_getElem? (i := 163) rfl) rfl
set_option maxRecDepth 20000 in
theorem ke_X10_was : Cond.selects RX10 yX10_was yX10_was ∈ TB := inT4 (List.mem_of_getElem? (i := 164) rfl) rfl
set_option maxRecDepth 20000 in
theorem kc_X10_was : Cond.code yX10_was cX10_was 6 (some .int) ∈ TB := inT4 (List.mem_of_getElem? (i := 165) rfl) rfl
set_option maxRecDepth 20000 in
theorem kl_L_84 : Cond.methodLink RL 84 yX10_half ∈ TB := inT4 (List.mem_of_getElem? (i := 166) rfl) rfl
set_option maxRecDepth 20000 in
theorem ki_X10_half : Cond.instanceMethod yX10_half ∈ TB := inT4 (List.mem_of_getElem? (i := 167) rfl) rfl
set_option maxRecDepth 20000 in
theorem ke_X10_half : Cond.selects RX10 yX10_half yX10_half ∈ TB := inT4 (List.mem_of_getElem? (i := 168) rfl) rfl
set_option maxRecDepth 20000 in
theorem kc_X10_half : Cond.code yX10_half cX10_half 7 (some .int) ∈ TB := inT4 (List.mem_of_getElem? (i := 169) rfl) rfl
set_option maxRecDepth 20000 in
theorem kl_L_88 : Cond.methodLink RL 88 yX10_code ∈ TB := inT4 (List.mem_of_getElem? (i := 170) rfl) rfl
set_option maxRecDepth 20000 in
theorem ki_X10_code : Cond.instanceMethod yX10_code ∈ TB := inT4 (List.mem_of_getElem? (i := 171) rfl) rfl
set_option maxRecDepth 20000 in
theorem ke_X10_code : Cond.selects RX10 yX10_code yX10_code ∈ TB := inT4 (List.mem_of_getElem? (i := 172) rfl) rfl
set_option maxRecDepth 20000 in
theorem kc_X10_code : Cond.code yX10_code cX10_code 8 (some .int) ∈ TB := inT4 (List.mem_of_getElem? (i := 173) rfl) rfl
set_option maxRecDepth 20000 in
theorem kv_X10_173 : Cond.constantLong RX10 173 (-1) ∈ TB := inT4 (List.mem_of_getElem? (i := 174) rfl) rfl
set_option maxRecDepth 20000 in
theorem kl_X10_175 : Cond.methodLink RX10 175 yX10_codes ∈ TB := inT4 (List.mem_of_getElem? (i := 175) rfl) rfl
set_option maxRecDepth 20000 in
theorem ki_X10_codes : Cond.instanceMethod yX10_codes ∈ TB := inT4 (List.mem_of_getElem? (i := 177) rfl) rfl
set_option maxRecDepth 20000 in
theorem kc_X10_codes : Cond.code yX10_codes cX10_codes 5 none ∈ TB := inT4 (List.mem_of_getElem? (i := 178) rfl) rfl
set_option maxRecDepth 20000 in
theorem kl_X10_179 : Cond.methodLink RX10 179 yX10_isApart ∈ TB := inT4 (List.mem_of_getElem? (i := 179) rfl) rfl
set_option maxRecDepth 20000 in
theorem ki_X10_isApart : Cond.instanceMethod yX10_isApart ∈ TB := inT4 (List.mem_of_getElem? (i := 181) rfl) rfl
set_option maxRecDepth 20000 in
theorem kc_X10_isApart : Cond.code yX10_isApart cX10_isApart 5 (some .boolean) ∈ TB := inT4 (List.mem_of_getElem? (i := 182) rfl) rfl
set_option maxRecDepth 20000 in
theorem kl_L_92 : Cond.methodLink RL 92 yX10_sent ∈ TB := inT4 (List.mem_of_getElem? (i := 183) rfl) rfl
set_option maxRecDepth 20000 in
theorem ki_X10_sent : Cond.instanceMethod yX10_sent ∈ TB := inT4 (List.mem_of_getElem? (i := 184) rfl) rfl
set_option maxRecDepth 20000 in
theorem ke_X10_sent : Cond.selects RX10 yX10_sent yX10_sent ∈ TB := inT4 (List.mem_of_getElem? (i := 185) rfl) rfl
set_option maxRecDepth 20000 in
theorem kc_X10_sent : Cond.code yX10_sent cX10_sent 5 (some .int) ∈ TB := inT4 (List.mem_of_getElem? (i := 186) rfl) rfl
set_option maxRecDepth 20000 in
theorem kl_X10_195 : Cond.methodLink RX10 195 yX10_isCarrier ∈ TB := inT4 (List.mem_of_getElem? (i := 187) rfl) rfl
set_option maxRecDepth 20000 in
theorem ki_X10_isCarrier : Cond.instanceMethod yX10_isCarrier ∈ TB := inT4 (List.mem_of_getElem? (i := 189) rfl) rfl
set_option maxRecDepth 20000 in
theorem kc_X10_isCarrier : Cond.code yX10_isCarrier cX10_isCarrier 2 (some .boolean) ∈ TB := inT4 (List.mem_of_getElem? (i := 190) rfl) rfl
set_option maxRecDepth 20000 in
theorem kl_X10_198 : Cond.methodLink RX10 198 yX10_isAge ∈ TB := inT4 (List.mem_of_getElem? (i := 191) rfl) rfl
set_option maxRecDepth 20000 in
theorem ks_X10_isAge : Cond.static yX10_isAge ∈ TB := inT4 (List.mem_of_getElem? (i := 192) rfl) rfl
set_option maxRecDepth 20000 in
theorem kc_X10_isAge : Cond.code yX10_isAge cX10_isAge 1 (some .boolean) ∈ TB := inT4 (List.mem_of_getElem? (i := 193) rfl) rfl
set_option maxRecDepth 20000 in
theorem kl_X10_201 : Cond.methodLink RX10 201 yX10_reads ∈ TB := inT4 (List.mem_of_getElem? (i := 194) rfl) rfl
set_option maxRecDepth 20000 in
theorem ki_X10_reads : Cond.instanceMethod yX10_reads ∈ TB := inT4 (List.mem_of_getElem? (i := 196) rfl) rfl
set_option maxRecDepth 20000 in
theorem kc_X10_reads : Cond.code yX10_reads cX10_reads 11 (some .long) ∈ TB := inT4 (List.mem_of_getElem? (i := 197) rfl) rfl
set_option maxRecDepth 20000 in
theorem kl_X10_182 : Cond.methodLink RX10 182 yX10_power ∈ TB := inT4 (List.mem_of_getElem? (i := 198) rfl) rfl
set_option maxRecDepth 20000 in
theorem ks_X10_power : Cond.static yX10_power ∈ TB := inT4 (List.mem_of_getElem? (i := 199) rfl) rfl
set_option maxRecDepth 20000 in
theorem kc_X10_power : Cond.code yX10_power cX10_power 6 (some .long) ∈ TB := inT4 (List.mem_of_getElem? (i := 200) rfl) rfl
set_option maxRecDepth 20000 in
theorem kv_X10_186 : Cond.constantLong RX10 186 (10) ∈ TB := inT4 (List.mem_of_getElem? (i := 201) rfl) rfl
set_option maxRecDepth 20000 in
theorem kl_X10_205 : Cond.methodLink RX10 205 yX10_tens ∈ TB := inT4 (List.mem_of_getElem? (i := 202) rfl) rfl
set_option maxRecDepth 20000 in
theorem ki_X10_tens : Cond.instanceMethod yX10_tens ∈ TB := inT4 (List.mem_of_getElem? (i := 204) rfl) rfl
set_option maxRecDepth 20000 in
theorem kc_X10_tens : Cond.code yX10_tens cX10_tens 2 (some .long) ∈ TB := inT4 (List.mem_of_getElem? (i := 205) rfl) rfl
set_option maxRecDepth 20000 in
theorem kl_X10_209 : Cond.methodLink RX10 209 yX10_lowest ∈ TB := inT4 (List.mem_of_getElem? (i := 206) rfl) rfl
set_option maxRecDepth 20000 in
theorem ki_X10_lowest : Cond.instanceMethod yX10_lowest ∈ TB := inT4 (List.mem_of_getElem? (i := 208) rfl) rfl
set_option maxRecDepth 20000 in
theorem kc_X10_lowest : Cond.code yX10_lowest cX10_lowest 11 none ∈ TB := inT4 (List.mem_of_getElem? (i := 209) rfl) rfl
set_option maxRecDepth 20000 in
theorem kl_L_96 : Cond.methodLink RL 96 yX10_whom ∈ TB := inT4 (List.mem_of_getElem? (i := 210) rfl) rfl
set_option maxRecDepth 20000 in
theorem ki_X10_whom : Cond.instanceMethod yX10_whom ∈ TB := inT4 (List.mem_of_getElem? (i := 211) rfl) rfl
set_option maxRecDepth 20000 in
theorem ke_X10_whom : Cond.selects RX10 yX10_whom yX10_whom ∈ TB := inT4 (List.mem_of_getElem? (i := 212) rfl) rfl
set_option maxRecDepth 20000 in
theorem kc_X10_whom : Cond.code yX10_whom cX10_whom 9 (some .int) ∈ TB := inT4 (List.mem_of_getElem? (i := 213) rfl) rfl
set_option maxRecDepth 20000 in
theorem kl_L_101 : Cond.methodLink RL 101 yX10_two ∈ TB := inT4 (List.mem_of_getElem? (i := 214) rfl) rfl
set_option maxRecDepth 20000 in
theorem ki_X10_two : Cond.instanceMethod yX10_two ∈ TB := inT4 (List.mem_of_getElem? (i := 215) rfl) rfl
set_option maxRecDepth 20000 in
theorem ke_X10_two : Cond.selects RX10 yX10_two yX10_two ∈ TB := inT4 (List.mem_of_getElem? (i := 216) rfl) rfl
set_option maxRecDepth 20000 in
theorem kc_X10_two : Cond.code yX10_two cX10_two 8 (some .long) ∈ TB := inT4 (List.mem_of_getElem? (i := 217) rfl) rfl
set_option maxRecDepth 20000 in
theorem kl_L_105 : Cond.methodLink RL 105 yX10_said ∈ TB := inT4 (List.mem_of_getElem? (i := 218) rfl) rfl
set_option maxRecDepth 20000 in
theorem ki_X10_said : Cond.instanceMethod yX10_said ∈ TB := inT4 (List.mem_of_getElem? (i := 219) rfl) rfl
set_option maxRecDepth 20000 in
theorem ke_X10_said : Cond.selects RX10 yX10_said yX10_said ∈ TB := inT4 (List.mem_of_getElem? (i := 220) rfl) rfl
set_option maxRecDepth 20000 in
theorem kc_X10_said : Cond.code yX10_said cX10_said 9 (some .int) ∈ TB := inT4 (List.mem_of_getElem? (i := 221) rfl) rfl
set_option maxRecDepth 20000 in
theorem kv_X10_213 : Cond.constantLong RX10 213 (99) ∈ TB := inT4 (List.mem_of_getElem? (i := 222) rfl) rfl
set_option maxRecDepth 20000 in
theorem kl_L_109 : Cond.methodLink RL 109 yX10_told ∈ TB := inT4 (List.mem_of_getElem? (i := 223) rfl) rfl
set_option maxRecDepth 20000 in
theorem ki_X10_told : Cond.instanceMethod yX10_told ∈ TB := inT4 (List.mem_of_getElem? (i := 224) rfl) rfl
set_option maxRecDepth 20000 in
theorem ke_X10_told : Cond.selects RX10 yX10_told yX10_told ∈ TB := inT4 (List.mem_of_getElem? (i := 225) rfl) rfl
set_option maxRecDepth 20000 in
theorem kc_X10_told : Cond.code yX10_told cX10_told 7 (some .int) ∈ TB := inT4 (List.mem_of_getElem? (i := 226) rfl) rfl
set_option maxRecDepth 20000 in
theorem kv_X10_215 : Cond.constantLong RX10 215 (63) ∈ TB := inT4 (List.mem_of_getElem? (i := 227) rfl) rfl
set_option maxRecDepth 20000 in
theorem kl_L_113 : Cond.methodLink RL 113 yX10_month ∈ TB := inT4 (List.mem_of_getElem? (i := 228) rfl) rfl
set_option maxRecDepth 20000 in
theorem ki_X10_month : Cond.instanceMethod yX10_month ∈ TB := inT4 (List.mem_of_getElem? (i := 229) rfl) rfl
set_option maxRecDepth 20000 in
theorem ke_X10_month : Cond.selects RX10 yX10_month yX10_month ∈ TB := inT4 (List.mem_of_getElem? (i := 230) rfl) rfl
set_option maxRecDepth 20000 in
theorem kc_X10_month : Cond.code yX10_month cX10_month 12 (some .int) ∈ TB := inT4 (List.mem_of_getElem? (i := 231) rfl) rfl
set_option maxRecDepth 20000 in
theorem kv_X10_217 : Cond.constantLong RX10 217 (9999) ∈ TB := inT4 (List.mem_of_getElem? (i := 232) rfl) rfl
set_option maxRecDepth 20000 in
theorem kv_X10_219 : Cond.constantLong RX10 219 (30) ∈ TB := inT4 (List.mem_of_getElem? (i := 233) rfl) rfl
set_option maxRecDepth 20000 in
theorem kv_X10_221 : Cond.constantLong RX10 221 (7919) ∈ TB := inT4 (List.mem_of_getElem? (i := 234) rfl) rfl
set_option maxRecDepth 20000 in
theorem kv_X10_223 : Cond.constantLong RX10 223 (6151) ∈ TB := inT4 (List.mem_of_getElem? (i := 235) rfl) rfl
set_option maxRecDepth 20000 in
theorem kv_X10_225 : Cond.constantLong RX10 225 (65521) ∈ TB := inT4 (List.mem_of_getElem? (i := 236) rfl) rfl
set_option maxRecDepth 20000 in
theorem kl_L_117 : Cond.methodLink RL 117 yX10_keep ∈ TB := inT4 (List.mem_of_getElem? (i := 237) rfl) rfl
set_option maxRecDepth 20000 in
theorem ki_X10_keep : Cond.instanceMethod yX10_keep ∈ TB := inT4 (List.mem_of_getElem? (i := 238) rfl) rfl
set_option maxRecDepth 20000 in
theorem ke_X10_keep : Cond.selects RX10 yX10_keep yX10_keep ∈ TB := inT4 (List.mem_of_getElem? (i := 239) rfl) rfl
set_option maxRecDepth 20000 in
theorem kc_X10_keep : Cond.code yX10_keep cX10_keep 1 (some .int) ∈ TB := inT5 (List.mem_of_getElem? (i := 0) rfl) rfl
set_option maxRecDepth 20000 in
theorem kl_X10_227 : Cond.methodLink RX10 227 yX10_copies ∈ TB := inT5 (List.mem_of_getElem? (i := 1) rfl) rfl
set_option maxRecDepth 20000 in
theorem ki_X10_copies : Cond.instanceMethod yX10_copies ∈ TB := inT5 (List.mem_of_getElem? (i := 3) rfl) rfl
set_option maxRecDepth 20000 in
theorem kc_X10_copies : Cond.code yX10_copies cX10_copies 4 none ∈ TB := inT5 (List.mem_of_getElem? (i := 4) rfl) rfl
set_option maxRecDepth 20000 in
theorem kl_L_121 : Cond.methodLink RL 121 yX10_back ∈ TB := inT5 (List.mem_of_getElem? (i := 5) rfl) rfl
set_option maxRecDepth 20000 in
theorem ki_X10_back : Cond.instanceMethod yX10_back ∈ TB := inT5 (List.mem_of_getElem? (i := 6) rfl) rfl
set_option maxRecDepth 20000 in
theorem ke_X10_back : Cond.selects RX10 yX10_back yX10_back ∈ TB := inT5 (List.mem_of_getElem? (i := 7) rfl) rfl
set_option maxRecDepth 20000 in
theorem kc_X10_back : Cond.code yX10_back cX10_back 1 (some .int) ∈ TB := inT5 (List.mem_of_getElem? (i := 8) rfl) rfl
set_option maxRecDepth 20000 in
theorem kl_L_125 : Cond.methodLink RL 125 yX10_count ∈ TB := inT5 (List.mem_of_getElem? (i := 9) rfl) rfl
set_option maxRecDepth 20000 in
theorem ki_X10_count : Cond.instanceMethod yX10_count ∈ TB := inT5 (List.mem_of_getElem? (i := 10) rfl) rfl
set_option maxRecDepth 20000 in
theorem ke_X10_count : Cond.selects RX10 yX10_count yX10_count ∈ TB := inT5 (List.mem_of_getElem? (i := 11) rfl) rfl
set_option maxRecDepth 20000 in
theorem kc_X10_count : Cond.code yX10_count cX10_count 2 (some .int) ∈ TB := inT5 (List.mem_of_getElem? (i := 12) rfl) rfl
set_option maxRecDepth 20000 in
theorem kv_L_13 : Cond.constantLong RL 13 (4294967295) ∈ TB := inT5 (List.mem_of_getElem? (i := 13) rfl) rfl
set_option maxRecDepth 20000 in
theorem ke_X4_readItem : Cond.selects RX4 yX4_readItem yX4_readItem ∈ TB := inPS (q := (yX4_readItem, 2)) (List.mem_append_left _ (List.mem_of_getElem? (i := 0) rfl))
set_option maxRecDepth 20000 in
theorem ke_X4_readNumbers : Cond.selects RX4 yX4_readNumbers yX4_readNumbers ∈ TB := inPS (q := (yX4_readNumbers, 2)) (List.mem_append_left _ (List.mem_of_getElem? (i := 1) rfl))
set_option maxRecDepth 20000 in
theorem ke_X4_readNumber : Cond.selects RX4 yX4_readNumber yX4_readNumber ∈ TB := inPS (q := (yX4_readNumber, 2)) (List.mem_append_left _ (List.mem_of_getElem? (i := 2) rfl))
set_option maxRecDepth 20000 in
theorem ke_X9_isWord : Cond.selects RX9 yX9_isWord yX9_isWord ∈ TB := inPS (q := (yX9_isWord, 9)) (List.mem_append_left _ (List.mem_of_getElem? (i := 3) rfl))
set_option maxRecDepth 20000 in
theorem ke_X5_dropOldest : Cond.selects RX5 yX5_dropOldest yX5_dropOldest ∈ TB := inPS (q := (yX5_dropOldest, 3)) (List.mem_append_left _ (List.mem_of_getElem? (i := 4) rfl))
set_option maxRecDepth 20000 in
theorem ke_X9_wordBehind : Cond.selects RX9 yX9_wordBehind yX9_wordBehind ∈ TB := inPS (q := (yX9_wordBehind, 9)) (List.mem_append_left _ (List.mem_of_getElem? (i := 5) rfl))
set_option maxRecDepth 20000 in
theorem ke_X1_change : Cond.selects RX1 yX1_change yX1_change ∈ TB := inPS (q := (yX1_change, 1)) (List.mem_append_left _ (List.mem_of_getElem? (i := 6) rfl))
set_option maxRecDepth 20000 in
theorem ke_X9_readingOf : Cond.selects RX9 yX9_readingOf yX9_readingOf ∈ TB := inPS (q := (yX9_readingOf, 9)) (List.mem_append_left _ (List.mem_of_getElem? (i := 7) rfl))
set_option maxRecDepth 20000 in
theorem ke_X9_signNow : Cond.selects RX9 yX9_signNow yX9_signNow ∈ TB := inPS (q := (yX9_signNow, 9)) (List.mem_append_left _ (List.mem_of_getElem? (i := 8) rfl))
set_option maxRecDepth 20000 in
theorem ke_X3_markBitten : Cond.selects RX3 yX3_markBitten yX3_markBitten ∈ TB := inPS (q := (yX3_markBitten, 2)) (List.mem_append_left _ (List.mem_of_getElem? (i := 9) rfl))
set_option maxRecDepth 20000 in
theorem ke_X3_mark : Cond.selects RX3 yX3_mark yX3_mark ∈ TB := inPS (q := (yX3_mark, 2)) (List.mem_append_left _ (List.mem_of_getElem? (i := 10) rfl))
set_option maxRecDepth 20000 in
theorem ke_X0_extend : Cond.selects RX0 yX0_extend yX0_extend ∈ TB := inPS (q := (yX0_extend, 5)) (List.mem_append_left _ (List.mem_of_getElem? (i := 11) rfl))
set_option maxRecDepth 20000 in
theorem ke_X0_staysApart : Cond.selects RX0 yX0_staysApart yX0_staysApart ∈ TB := inPS (q := (yX0_staysApart, 5)) (List.mem_append_left _ (List.mem_of_getElem? (i := 12) rfl))
set_option maxRecDepth 20000 in
theorem ke_X9_isCarrier : Cond.selects RX9 yX9_isCarrier yX9_isCarrier ∈ TB := inPS (q := (yX9_isCarrier, 9)) (List.mem_append_left _ (List.mem_of_getElem? (i := 13) rfl))
set_option maxRecDepth 20000 in
theorem ke_X10_begins : Cond.selects RX10 yX10_begins yX10_begins ∈ TB := inPS (q := (yX10_begins, 22)) (List.mem_append_left _ (List.mem_of_getElem? (i := 14) rfl))
set_option maxRecDepth 20000 in
theorem ke_X10_takes : Cond.selects RX10 yX10_takes yX10_takes ∈ TB := inPS (q := (yX10_takes, 22)) (List.mem_append_left _ (List.mem_of_getElem? (i := 15) rfl))
set_option maxRecDepth 20000 in
theorem ke_X10_isItem : Cond.selects RX10 yX10_isItem yX10_isItem ∈ TB := inPS (q := (yX10_isItem, 22)) (List.mem_append_right _ (List.mem_append_left _ (List.mem_of_getElem? (i := 0) rfl)))
set_option maxRecDepth 20000 in
theorem ke_X10_number : Cond.selects RX10 yX10_number yX10_number ∈ TB := inPS (q := (yX10_number, 22)) (List.mem_append_right _ (List.mem_append_left _ (List.mem_of_getElem? (i := 1) rfl)))
set_option maxRecDepth 20000 in
theorem ke_X10_isGood : Cond.selects RX10 yX10_isGood yX10_isGood ∈ TB := inPS (q := (yX10_isGood, 22)) (List.mem_append_right _ (List.mem_append_left _ (List.mem_of_getElem? (i := 2) rfl)))
set_option maxRecDepth 20000 in
theorem ke_X10_isIn : Cond.selects RX10 yX10_isIn yX10_isIn ∈ TB := inPS (q := (yX10_isIn, 22)) (List.mem_append_right _ (List.mem_append_left _ (List.mem_of_getElem? (i := 3) rfl)))
set_option maxRecDepth 20000 in
theorem ke_X10_isWord : Cond.selects RX10 yX10_isWord yX10_isWord ∈ TB := inPS (q := (yX10_isWord, 22)) (List.mem_append_right _ (List.mem_append_left _ (List.mem_of_getElem? (i := 4) rfl)))
set_option maxRecDepth 20000 in
theorem ke_X10_used : Cond.selects RX10 yX10_used yX10_used ∈ TB := inPS (q := (yX10_used, 22)) (List.mem_append_right _ (List.mem_append_left _ (List.mem_of_getElem? (i := 5) rfl)))
set_option maxRecDepth 20000 in
theorem ke_X10_baked : Cond.selects RX10 yX10_baked yX10_baked ∈ TB := inPS (q := (yX10_baked, 22)) (List.mem_append_right _ (List.mem_append_left _ (List.mem_of_getElem? (i := 6) rfl)))
set_option maxRecDepth 20000 in
theorem ke_X10_known : Cond.selects RX10 yX10_known yX10_known ∈ TB := inPS (q := (yX10_known, 22)) (List.mem_append_right _ (List.mem_append_left _ (List.mem_of_getElem? (i := 7) rfl)))
set_option maxRecDepth 20000 in
theorem ke_X10_ages : Cond.selects RX10 yX10_ages yX10_ages ∈ TB := inPS (q := (yX10_ages, 22)) (List.mem_append_right _ (List.mem_append_left _ (List.mem_of_getElem? (i := 8) rfl)))
set_option maxRecDepth 20000 in
theorem ke_X10_hasNow : Cond.selects RX10 yX10_hasNow yX10_hasNow ∈ TB := inPS (q := (yX10_hasNow, 22)) (List.mem_append_right _ (List.mem_append_left _ (List.mem_of_getElem? (i := 9) rfl)))
set_option maxRecDepth 20000 in
theorem ke_X10_become : Cond.selects RX10 yX10_become yX10_become ∈ TB := inPS (q := (yX10_become, 22)) (List.mem_append_right _ (List.mem_append_left _ (List.mem_of_getElem? (i := 10) rfl)))
set_option maxRecDepth 20000 in
theorem ke_X10_aged : Cond.selects RX10 yX10_aged yX10_aged ∈ TB := inPS (q := (yX10_aged, 22)) (List.mem_append_right _ (List.mem_append_left _ (List.mem_of_getElem? (i := 11) rfl)))
set_option maxRecDepth 20000 in
theorem ke_X10_read : Cond.selects RX10 yX10_read yX10_read ∈ TB := inPS (q := (yX10_read, 22)) (List.mem_append_right _ (List.mem_append_left _ (List.mem_of_getElem? (i := 12) rfl)))
set_option maxRecDepth 20000 in
theorem ke_X10_isLoaf : Cond.selects RX10 yX10_isLoaf yX10_isLoaf ∈ TB := inPS (q := (yX10_isLoaf, 22)) (List.mem_append_right _ (List.mem_append_left _ (List.mem_of_getElem? (i := 13) rfl)))
set_option maxRecDepth 20000 in
theorem ke_X10_isAble : Cond.selects RX10 yX10_isAble yX10_isAble ∈ TB := inPS (q := (yX10_isAble, 22)) (List.mem_append_right _ (List.mem_append_left _ (List.mem_of_getElem? (i := 14) rfl)))
set_option maxRecDepth 20000 in
theorem ke_X10_codes : Cond.selects RX10 yX10_codes yX10_codes ∈ TB := inPS (q := (yX10_codes, 22)) (List.mem_append_right _ (List.mem_append_left _ (List.mem_of_getElem? (i := 15) rfl)))
set_option maxRecDepth 20000 in
theorem ke_X10_isApart : Cond.selects RX10 yX10_isApart yX10_isApart ∈ TB := inPS (q := (yX10_isApart, 22)) (List.mem_append_right _ (List.mem_append_right _ (List.mem_of_getElem? (i := 0) rfl)))
set_option maxRecDepth 20000 in
theorem ke_X10_isCarrier : Cond.selects RX10 yX10_isCarrier yX10_isCarrier ∈ TB := inPS (q := (yX10_isCarrier, 22)) (List.mem_append_right _ (List.mem_append_right _ (List.mem_of_getElem? (i := 1) rfl)))
set_option maxRecDepth 20000 in
theorem ke_X10_reads : Cond.selects RX10 yX10_reads yX10_reads ∈ TB := inPS (q := (yX10_reads, 22)) (List.mem_append_right _ (List.mem_append_right _ (List.mem_of_getElem? (i := 2) rfl)))
set_option maxRecDepth 20000 in
theorem ke_X10_tens : Cond.selects RX10 yX10_tens yX10_tens ∈ TB := inPS (q := (yX10_tens, 22)) (List.mem_append_right _ (List.mem_append_right _ (List.mem_of_getElem? (i := 3) rfl)))
set_option maxRecDepth 20000 in
theorem ke_X10_lowest : Cond.selects RX10 yX10_lowest yX10_lowest ∈ TB := inPS (q := (yX10_lowest, 22)) (List.mem_append_right _ (List.mem_append_right _ (List.mem_of_getElem? (i := 4) rfl)))
set_option maxRecDepth 20000 in
theorem ke_X10_copies : Cond.selects RX10 yX10_copies yX10_copies ∈ TB := inPS (q := (yX10_copies, 22)) (List.mem_append_right _ (List.mem_append_right _ (List.mem_of_getElem? (i := 5) rfl)))
set_option maxRecDepth 20000 in
theorem kt_X0 : ∀ w ∈ u_ws RX0 TX0 5, w ∈ lw_tbl := by decide +kernel
set_option maxRecDepth 20000 in
theorem kg_X0 : ∀ w ∈ u_ws RX0 TX0 5, goodWord w = true := by decide +kernel
set_option maxRecDepth 20000 in
theorem kw_X0 : ∀ w ∈ u_ws RX0 TX0 5, w ∈ TB := fun w h => inTB (kt_X0 w h) (kg_X0 w h)
set_option maxRecDepth 20000 in
theorem kt_X1 : ∀ w ∈ u_ws RX1 TX1 1, w ∈ lw_tbl := by decide +kernel
set_option maxRecDepth 20000 in
theorem kg_X1 : ∀ w ∈ u_ws RX1 TX1 1, goodWord w = true := by decide +kernel
set_option maxRecDepth 20000 in
theorem kw_X1 : ∀ w ∈ u_ws RX1 TX1 1, w ∈ TB := fun w h => inTB (kt_X1 w h) (kg_X1 w h)
set_option maxRecDepth 20000 in
theorem kt_X3 : ∀ w ∈ u_ws RX3 TX3 2, w ∈ lw_tbl := by decide +kernel
set_option maxRecDepth 20000 in
theorem kg_X3 : ∀ w ∈ u_ws RX3 TX3 2, goodWord w = true := by decide +kernel
set_option maxRecDepth 20000 in
theorem kw_X3 : ∀ w ∈ u_ws RX3 TX3 2, w ∈ TB := fun w h => inTB (kt_X3 w h) (kg_X3 w h)
set_option maxRecDepth 20000 in
theorem kt_X4 : ∀ w ∈ u_ws RX4 TX4 2, w ∈ lw_tbl := by decide +kernel
set_option maxRecDepth 20000 in
theorem kg_X4 : ∀ w ∈ u_ws RX4 TX4 2, goodWord w = true := by decide +kernel
set_option maxRecDepth 20000 in
theorem kw_X4 : ∀ w ∈ u_ws RX4 TX4 2, w ∈ TB := fun w h => inTB (kt_X4 w h) (kg_X4 w h)
set_option maxRecDepth 20000 in
theorem kt_X5 : ∀ w ∈ u_ws RX5 TX5 3, w ∈ lw_tbl := by decide +kernel
set_option maxRecDepth 20000 in
theorem kg_X5 : ∀ w ∈ u_ws RX5 TX5 3, goodWord w = true := by decide +kernel
set_option maxRecDepth 20000 in
theorem kw_X5 : ∀ w ∈ u_ws RX5 TX5 3, w ∈ TB := fun w h => inTB (kt_X5 w h) (kg_X5 w h)
set_option maxRecDepth 20000 in
theorem kt_X7 : ∀ w ∈ u_ws RX7 TX7 2, w ∈ lw_tbl := by decide +kernel
set_option maxRecDepth 20000 in
theorem kg_X7 : ∀ w ∈ u_ws RX7 TX7 2, goodWord w = true := by decide +kernel
set_option maxRecDepth 20000 in
theorem kw_X7 : ∀ w ∈ u_ws RX7 TX7 2, w ∈ TB := fun w h => inTB (kt_X7 w h) (kg_X7 w h)
set_option maxRecDepth 20000 in
theorem kt_X8 : ∀ w ∈ u_ws RX8 TX8 10, w ∈ lw_tbl := by decide +kernel
set_option maxRecDepth 20000 in
theorem kg_X8 : ∀ w ∈ u_ws RX8 TX8 10, goodWord w = true := by decide +kernel
set_option maxRecDepth 20000 in
theorem kw_X8 : ∀ w ∈ u_ws RX8 TX8 10, w ∈ TB := fun w h => inTB (kt_X8 w h) (kg_X8 w h)
set_option maxRecDepth 20000 in
theorem kt_X9 : ∀ w ∈ u_ws RX9 TX9 9, w ∈ lw_tbl := by decide +kernel
set_option maxRecDepth 20000 in
theorem kg_X9 : ∀ w ∈ u_ws RX9 TX9 9, goodWord w = true := by decide +kernel
set_option maxRecDepth 20000 in
theorem kw_X9 : ∀ w ∈ u_ws RX9 TX9 9, w ∈ TB := fun w h => inTB (kt_X9 w h) (kg_X9 w h)
set_option maxRecDepth 20000 in
theorem kt_X10 : ∀ w ∈ u_ws RX10 TX10 22, w ∈ lw_tbl := by decide +kernel
set_option maxRecDepth 20000 in
theorem kg_X10 : ∀ w ∈ u_ws RX10 TX10 22, goodWord w = true := by decide +kernel
set_option maxRecDepth 20000 in
theorem kw_X10 : ∀ w ∈ u_ws RX10 TX10 22, w ∈ TB := fun w h => inTB (kt_X10 w h) (kg_X10 w h)
/-- links between nest mates -/
def NL : List (String × Nat × MethodName × String) := [(RX9, 9, yX7_init, RX9), (RX9, 18, yX4_init, RX9), (RX9, 25, yX1_init, RX9), (RX9, 44, yX3_init, RX9), (RX8, 43, yX9_within, RX9), (RX8, 57, yX9_at, RX9), (RX4, 64, yX9_within, RX9), (RX1, 17, yX9_within, RX9), (RX1, 27, yX9_at, RX9), (RX3, 18, yX9_isSign, RX9), (RX0, 42, yX9_at, RX9)]
set_option maxRecDepth 20000 in
theorem kx_X9_9 : (RX9, 9, yX7_init, RX9) ∈ NL := List.mem_of_getElem? (i := 0) rfl
set_option maxRecDepth 20000 in
theorem kx_X9_18 : (RX9, 18, yX4_init, RX9) ∈ NL := List.mem_of_getElem? (i := 1) rfl
set_option maxRecDepth 20000 in
theorem kx_X9_25 : (RX9, 25, yX1_init, RX9) ∈ NL := List.mem_of_getElem? (i := 2) rfl
set_option maxRecDepth 20000 in
theorem kx_X9_44 : (RX9, 44, yX3_init, RX9) ∈ NL := List.mem_of_getElem? (i := 3) rfl
set_option maxRecDepth 20000 in
theorem kx_X8_43 : (RX8, 43, yX9_within, RX9) ∈ NL := List.mem_of_getElem? (i := 4) rfl
set_option maxRecDepth 20000 in
theorem kx_X8_57 : (RX8, 57, yX9_at, RX9) ∈ NL := List.mem_of_getElem? (i := 5) rfl
set_option maxRecDepth 20000 in
theorem kx_X4_64 : (RX4, 64, yX9_within, RX9) ∈ NL := List.mem_of_getElem? (i := 6) rfl
set_option maxRecDepth 20000 in
theorem kx_X1_17 : (RX1, 17, yX9_within, RX9) ∈ NL := List.mem_of_getElem? (i := 7) rfl
set_option maxRecDepth 20000 in
theorem kx_X1_27 : (RX1, 27, yX9_at, RX9) ∈ NL := List.mem_of_getElem? (i := 8) rfl
set_option maxRecDepth 20000 in
theorem kx_X3_18 : (RX3, 18, yX9_isSign, RX9) ∈ NL := List.mem_of_getElem? (i := 9) rfl
set_option maxRecDepth 20000 in
theorem kx_X0_42 : (RX0, 42, yX9_at, RX9) ∈ NL := List.mem_of_getElem? (i := 10) rfl
set_option maxRecDepth 20000 in
theorem NL_tbl : ∀ q ∈ NL, Cond.methodLinkNest q.1 q.2.1 q.2.2.1 q.2.2.2 ∈ lw_tbl := by decide +kernel
end
section
theorem dX0_init_0 : decode cX0_init 0 = .ok (.aload_n 0, 1) := by decide +kernel
theorem dX0_init_1 : decode cX0_init 1 = .ok (.invokespecial 3, 3) := by decide +kernel
theorem dX0_init_4 : decode cX0_init 4 = .ok (.aload_n 0, 1) := by decide +kernel
theorem dX0_init_5 : decode cX0_init 5 = .ok (.iconst 3, 1) := by decide +kernel
theorem dX0_init_6 : decode cX0_init 6 = .ok (.newarray .int, 2) := by decide +kernel
theorem dX0_init_8 : decode cX0_init 8 = .ok (.putfield 9, 3) := by decide +kernel
theorem dX0_init_11 : decode cX0_init 11 = .ok (.aload_n 0, 1) := by decide +kernel
theorem dX0_init_12 : decode cX0_init 12 = .ok (.iconst 3, 1) := by decide +kernel
theorem dX0_init_13 : decode cX0_init 13 = .ok (.newarray .int, 2) := by decide +kernel
theorem dX0_init_15 : decode cX0_init 15 = .ok (.putfield 15, 3) := by decide +kernel
theorem dX0_init_18 : decode cX0_init 18 = .ok (.aload_n 0, 1) := by decide +kernel
theorem dX0_init_19 : decode cX0_init 19 = .ok (.aload_n 1, 1) := by decide +kernel
theorem dX0_init_20 : decode cX0_init 20 = .ok (.putfield 18, 3) := by decide +kernel
theorem dX0_init_23 : decode cX0_init 23 = .ok (.return_, 1) := by decide +kernel
theorem dX0_find_0 : decode cX0_find 0 = .ok (.iconst 0, 1) := by decide +kernel
theorem dX0_find_1 : decode cX0_find 1 = .ok (.istore 5, 2) := by decide +kernel
theorem dX0_find_3 : decode cX0_find 3 = .ok (.iload 5, 2) := by decide +kernel
theorem dX0_find_5 : decode cX0_find 5 = .ok (.bipush 72, 2) := by decide +kernel
theorem dX0_find_7 : decode cX0_find 7 = .ok (.if_icmp .ge 22, 3) := by decide +kernel
theorem dX0_find_10 : decode cX0_find 10 = .ok (.aload_n 0, 1) := by decide +kernel
theorem dX0_find_11 : decode cX0_find 11 = .ok (.getfield 18, 3) := by decide +kernel
theorem dX0_find_14 : decode cX0_find 14 = .ok (.aload_n 1, 1) := by decide +kernel
theorem dX0_find_15 : decode cX0_find 15 = .ok (.iload 5, 2) := by decide +kernel
theorem dX0_find_17 : decode cX0_find 17 = .ok (.iload_n 3, 1) := by decide +kernel
theorem dX0_find_18 : decode cX0_find 18 = .ok (.iload 4, 2) := by decide +kernel
theorem dX0_find_20 : decode cX0_find 20 = .ok (.invokevirtual 22, 3) := by decide +kernel
theorem dX0_find_23 : decode cX0_find 23 = .ok (.iinc 5 1, 3) := by decide +kernel
theorem dX0_find_26 : decode cX0_find 26 = .ok (.goto (-23), 3) := by decide +kernel
theorem dX0_find_29 : decode cX0_find 29 = .ok (.aload_n 0, 1) := by decide +kernel
theorem dX0_find_30 : decode cX0_find 30 = .ok (.iload_n 2, 1) := by decide +kernel
theorem dX0_find_31 : decode cX0_find 31 = .ok (.putfield 28, 3) := by decide +kernel
theorem dX0_find_34 : decode cX0_find 34 = .ok (.aload_n 0, 1) := by decide +kernel
theorem dX0_find_35 : decode cX0_find 35 = .ok (.ldc 34, 2) := by decide +kernel
theorem dX0_find_37 : decode cX0_find 37 = .ok (.putfield 35, 3) := by decide +kernel
theorem dX0_find_40 : decode cX0_find 40 = .ok (.aload_n 0, 1) := by decide +kernel
theorem dX0_find_41 : decode cX0_find 41 = .ok (.iconst 0, 1) := by decide +kernel
theorem dX0_find_42 : decode cX0_find 42 = .ok (.iconst 0, 1) := by decide +kernel
theorem dX0_find_43 : decode cX0_find 43 = .ok (.iconst 0, 1) := by decide +kernel
theorem dX0_find_44 : decode cX0_find 44 = .ok (.invokevirtual 38, 3) := by decide +kernel
theorem dX0_find_47 : decode cX0_find 47 = .ok (.aload_n 0, 1) := by decide +kernel
theorem dX0_find_48 : decode cX0_find 48 = .ok (.getfield 35, 3) := by decide +kernel
theorem dX0_find_51 : decode cX0_find 51 = .ok (.ldc 34, 2) := by decide +kernel
theorem dX0_find_53 : decode cX0_find 53 = .ok (.if_icmp .eq 7, 3) := by decide +kernel
theorem dX0_find_56 : decode cX0_find 56 = .ok (.iconst 1, 1) := by decide +kernel
theorem dX0_find_57 : decode cX0_find 57 = .ok (.goto 4, 3) := by decide +kernel
theorem dX0_find_60 : decode cX0_find 60 = .ok (.iconst 0, 1) := by decide +kernel
theorem dX0_find_61 : decode cX0_find 61 = .ok (.ireturn, 1) := by decide +kernel
theorem dX0_leastFlour_0 : decode cX0_leastFlour 0 = .ok (.aload_n 0, 1) := by decide +kernel
theorem dX0_leastFlour_1 : decode cX0_leastFlour 1 = .ok (.getfield 35, 3) := by decide +kernel
theorem dX0_leastFlour_4 : decode cX0_leastFlour 4 = .ok (.ireturn, 1) := by decide +kernel
theorem dX0_signAt_0 : decode cX0_signAt 0 = .ok (.aload_n 0, 1) := by decide +kernel
theorem dX0_signAt_1 : decode cX0_signAt 1 = .ok (.getfield 15, 3) := by decide +kernel
theorem dX0_signAt_4 : decode cX0_signAt 4 = .ok (.iload_n 1, 1) := by decide +kernel
theorem dX0_signAt_5 : decode cX0_signAt 5 = .ok (.invokestatic 42, 3) := by decide +kernel
theorem dX0_signAt_8 : decode cX0_signAt 8 = .ok (.ireturn, 1) := by decide +kernel
theorem dX0_extend_0 : decode cX0_extend 0 = .ok (.iload_n 1, 1) := by decide +kernel
theorem dX0_extend_1 : decode cX0_extend 1 = .ok (.ifCond .lt 20, 3) := by decide +kernel
theorem dX0_extend_4 : decode cX0_extend 4 = .ok (.iload_n 1, 1) := by decide +kernel
theorem dX0_extend_5 : decode cX0_extend 5 = .ok (.aload_n 0, 1) := by decide +kernel
theorem dX0_extend_6 : decode cX0_extend 6 = .ok (.getfield 28, 3) := by decide +kernel
theorem dX0_extend_9 : decode cX0_extend 9 = .ok (.if_icmp .ge 12, 3) := by decide +kernel
theorem dX0_extend_12 : decode cX0_extend 12 = .ok (.iload_n 1, 1) := by decide +kernel
theorem dX0_extend_13 : decode cX0_extend 13 = .ok (.aload_n 0, 1) := by decide +kernel
theorem dX0_extend_14 : decode cX0_extend 14 = .ok (.getfield 9, 3) := by decide +kernel
theorem dX0_extend_17 : decode cX0_extend 17 = .ok (.arraylength, 1) := by decide +kernel
theorem dX0_extend_18 : decode cX0_extend 18 = .ok (.if_icmp .lt 23, 3) := by decide +kernel
theorem dX0_extend_21 : decode cX0_extend 21 = .ok (.aload_n 0, 1) := by decide +kernel
theorem dX0_extend_22 : decode cX0_extend 22 = .ok (.getfield 9, 3) := by decide +kernel
theorem dX0_extend_25 : decode cX0_extend 25 = .ok (.iconst 0, 1) := by decide +kernel
theorem dX0_extend_26 : decode cX0_extend 26 = .ok (.aload_n 0, 1) := by decide +kernel
theorem dX0_extend_27 : decode cX0_extend 27 = .ok (.getfield 15, 3) := by decide +kernel
theorem dX0_extend_30 : decode cX0_extend 30 = .ok (.iconst 0, 1) := by decide +kernel
theorem dX0_extend_31 : decode cX0_extend 31 = .ok (.iconst 3, 1) := by decide +kernel
theorem dX0_extend_32 : decode cX0_extend 32 = .ok (.invokestatic 46, 3) := by decide +kernel
theorem dX0_extend_35 : decode cX0_extend 35 = .ok (.aload_n 0, 1) := by decide +kernel
theorem dX0_extend_36 : decode cX0_extend 36 = .ok (.iload_n 3, 1) := by decide +kernel
theorem dX0_extend_37 : decode cX0_extend 37 = .ok (.putfield 35, 3) := by decide +kernel
theorem dX0_extend_40 : decode cX0_extend 40 = .ok (.return_, 1) := by decide +kernel
theorem dX0_extend_41 : decode cX0_extend 41 = .ok (.iload_n 2, 1) := by decide +kernel
theorem dX0_extend_42 : decode cX0_extend 42 = .ok (.istore 4, 2) := by decide +kernel
theorem dX0_extend_44 : decode cX0_extend 44 = .ok (.iload 4, 2) := by decide +kernel
theorem dX0_extend_46 : decode cX0_extend 46 = .ok (.bipush 72, 2) := by decide +kernel
theorem dX0_extend_48 : decode cX0_extend 48 = .ok (.if_icmp .ge 58, 3) := by decide +kernel
theorem dX0_extend_51 : decode cX0_extend 51 = .ok (.iload_n 3, 1) := by decide +kernel
theorem dX0_extend_52 : decode cX0_extend 52 = .ok (.iload 4, 2) := by decide +kernel
theorem dX0_extend_54 : decode cX0_extend 54 = .ok (.invokestatic 52, 3) := by decide +kernel
theorem dX0_extend_57 : decode cX0_extend 57 = .ok (.iadd, 1) := by decide +kernel
theorem dX0_extend_58 : decode cX0_extend 58 = .ok (.istore 5, 2) := by decide +kernel
theorem dX0_extend_60 : decode cX0_extend 60 = .ok (.iload 5, 2) := by decide +kernel
theorem dX0_extend_62 : decode cX0_extend 62 = .ok (.aload_n 0, 1) := by decide +kernel
theorem dX0_extend_63 : decode cX0_extend 63 = .ok (.getfield 35, 3) := by decide +kernel
theorem dX0_extend_66 : decode cX0_extend 66 = .ok (.if_icmp .ge 34, 3) := by decide +kernel
theorem dX0_extend_69 : decode cX0_extend 69 = .ok (.aload_n 0, 1) := by decide +kernel
theorem dX0_extend_70 : decode cX0_extend 70 = .ok (.iload 4, 2) := by decide +kernel
theorem dX0_extend_72 : decode cX0_extend 72 = .ok (.iload_n 1, 1) := by decide +kernel
theorem dX0_extend_73 : decode cX0_extend 73 = .ok (.invokevirtual 58, 3) := by decide +kernel
theorem dX0_extend_76 : decode cX0_extend 76 = .ok (.ifCond .eq 24, 3) := by decide +kernel
theorem dX0_extend_79 : decode cX0_extend 79 = .ok (.aload_n 0, 1) := by decide +kernel
theorem dX0_extend_80 : decode cX0_extend 80 = .ok (.getfield 9, 3) := by decide +kernel
theorem dX0_extend_83 : decode cX0_extend 83 = .ok (.iload_n 1, 1) := by decide +kernel
theorem dX0_extend_84 : decode cX0_extend 84 = .ok (.iload 4, 2) := by decide +kernel
theorem dX0_extend_86 : decode cX0_extend 86 = .ok (.iastore, 1) := by decide +kernel
theorem dX0_extend_87 : decode cX0_extend 87 = .ok (.aload_n 0, 1) := by decide +kernel
theorem dX0_extend_88 : decode cX0_extend 88 = .ok (.iload_n 1, 1) := by decide +kernel
theorem dX0_extend_89 : decode cX0_extend 89 = .ok (.iconst 1, 1) := by decide +kernel
theorem dX0_extend_90 : decode cX0_extend 90 = .ok (.iadd, 1) := by decide +kernel
theorem dX0_extend_91 : decode cX0_extend 91 = .ok (.iload 4, 2) := by decide +kernel
theorem dX0_extend_93 : decode cX0_extend 93 = .ok (.iconst 1, 1) := by decide +kernel
theorem dX0_extend_94 : decode cX0_extend 94 = .ok (.iadd, 1) := by decide +kernel
theorem dX0_extend_95 : decode cX0_extend 95 = .ok (.iload 5, 2) := by decide +kernel
theorem dX0_extend_97 : decode cX0_extend 97 = .ok (.invokevirtual 38, 3) := by decide +kernel
theorem dX0_extend_100 : decode cX0_extend 100 = .ok (.iinc 4 1, 3) := by decide +kernel
theorem dX0_extend_103 : decode cX0_extend 103 = .ok (.goto (-59), 3) := by decide +kernel
theorem dX0_extend_106 : decode cX0_extend 106 = .ok (.return_, 1) := by decide +kernel
theorem dX0_staysApart_0 : decode cX0_staysApart 0 = .ok (.iconst 0, 1) := by decide +kernel
theorem dX0_staysApart_1 : decode cX0_staysApart 1 = .ok (.istore_n 3, 1) := by decide +kernel
theorem dX0_staysApart_2 : decode cX0_staysApart 2 = .ok (.iload_n 3, 1) := by decide +kernel
theorem dX0_staysApart_3 : decode cX0_staysApart 3 = .ok (.iload_n 2, 1) := by decide +kernel
theorem dX0_staysApart_4 : decode cX0_staysApart 4 = .ok (.if_icmp .ge 30, 3) := by decide +kernel
theorem dX0_staysApart_7 : decode cX0_staysApart 7 = .ok (.aload_n 0, 1) := by decide +kernel
theorem dX0_staysApart_8 : decode cX0_staysApart 8 = .ok (.getfield 18, 3) := by decide +kernel
theorem dX0_staysApart_11 : decode cX0_staysApart 11 = .ok (.iload_n 1, 1) := by decide +kernel
theorem dX0_staysApart_12 : decode cX0_staysApart 12 = .ok (.aload_n 0, 1) := by decide +kernel
theorem dX0_staysApart_13 : decode cX0_staysApart 13 = .ok (.getfield 9, 3) := by decide +kernel
theorem dX0_staysApart_16 : decode cX0_staysApart 16 = .ok (.iload_n 3, 1) := by decide +kernel
theorem dX0_staysApart_17 : decode cX0_staysApart 17 = .ok (.invokestatic 42, 3) := by decide +kernel
theorem dX0_staysApart_20 : decode cX0_staysApart 20 = .ok (.invokevirtual 62, 3) := by decide +kernel
theorem dX0_staysApart_23 : decode cX0_staysApart 23 = .ok (.ifCond .eq 5, 3) := by decide +kernel
theorem dX0_staysApart_26 : decode cX0_staysApart 26 = .ok (.iconst 0, 1) := by decide +kernel
theorem dX0_staysApart_27 : decode cX0_staysApart 27 = .ok (.ireturn, 1) := by decide +kernel
theorem dX0_staysApart_28 : decode cX0_staysApart 28 = .ok (.iinc 3 1, 3) := by decide +kernel
theorem dX0_staysApart_31 : decode cX0_staysApart 31 = .ok (.goto (-29), 3) := by decide +kernel
theorem dX0_staysApart_34 : decode cX0_staysApart 34 = .ok (.iconst 1, 1) := by decide +kernel
theorem dX0_staysApart_35 : decode cX0_staysApart 35 = .ok (.ireturn, 1) := by decide +kernel
theorem dX1_init_0 : decode cX1_init 0 = .ok (.aload_n 0, 1) := by decide +kernel
theorem dX1_init_1 : decode cX1_init 1 = .ok (.invokespecial 3, 3) := by decide +kernel
theorem dX1_init_4 : decode cX1_init 4 = .ok (.aload_n 0, 1) := by decide +kernel
theorem dX1_init_5 : decode cX1_init 5 = .ok (.bipush 42, 2) := by decide +kernel
theorem dX1_init_7 : decode cX1_init 7 = .ok (.newarray .int, 2) := by decide +kernel
theorem dX1_init_9 : decode cX1_init 9 = .ok (.putfield 9, 3) := by decide +kernel
theorem dX1_init_12 : decode cX1_init 12 = .ok (.return_, 1) := by decide +kernel
theorem dX1_size_0 : decode cX1_size 0 = .ok (.aload_n 0, 1) := by decide +kernel
theorem dX1_size_1 : decode cX1_size 1 = .ok (.getfield 9, 3) := by decide +kernel
theorem dX1_size_4 : decode cX1_size 4 = .ok (.bipush 40, 2) := by decide +kernel
theorem dX1_size_6 : decode cX1_size 6 = .ok (.iaload, 1) := by decide +kernel
theorem dX1_size_7 : decode cX1_size 7 = .ok (.ireturn, 1) := by decide +kernel
theorem dX1_flour_0 : decode cX1_flour 0 = .ok (.aload_n 0, 1) := by decide +kernel
theorem dX1_flour_1 : decode cX1_flour 1 = .ok (.getfield 9, 3) := by decide +kernel
theorem dX1_flour_4 : decode cX1_flour 4 = .ok (.bipush 41, 2) := by decide +kernel
theorem dX1_flour_6 : decode cX1_flour 6 = .ok (.iaload, 1) := by decide +kernel
theorem dX1_flour_7 : decode cX1_flour 7 = .ok (.ireturn, 1) := by decide +kernel
theorem dX1_isFull_0 : decode cX1_isFull 0 = .ok (.aload_n 0, 1) := by decide +kernel
theorem dX1_isFull_1 : decode cX1_isFull 1 = .ok (.invokevirtual 13, 3) := by decide +kernel
theorem dX1_isFull_4 : decode cX1_isFull 4 = .ok (.bipush 8, 2) := by decide +kernel
theorem dX1_isFull_6 : decode cX1_isFull 6 = .ok (.if_icmp .lt 7, 3) := by decide +kernel
theorem dX1_isFull_9 : decode cX1_isFull 9 = .ok (.iconst 1, 1) := by decide +kernel
theorem dX1_isFull_10 : decode cX1_isFull 10 = .ok (.goto 4, 3) := by decide +kernel
theorem dX1_isFull_13 : decode cX1_isFull 13 = .ok (.iconst 0, 1) := by decide +kernel
theorem dX1_isFull_14 : decode cX1_isFull 14 = .ok (.ireturn, 1) := by decide +kernel
theorem dX1_holds_0 : decode cX1_holds 0 = .ok (.iload_n 1, 1) := by decide +kernel
theorem dX1_holds_1 : decode cX1_holds 1 = .ok (.iconst 0, 1) := by decide +kernel
theorem dX1_holds_2 : decode cX1_holds 2 = .ok (.aload_n 0, 1) := by decide +kernel
theorem dX1_holds_3 : decode cX1_holds 3 = .ok (.invokevirtual 13, 3) := by decide +kernel
theorem dX1_holds_6 : decode cX1_holds 6 = .ok (.iconst 1, 1) := by decide +kernel
theorem dX1_holds_7 : decode cX1_holds 7 = .ok (.isub, 1) := by decide +kernel
theorem dX1_holds_8 : decode cX1_holds 8 = .ok (.invokestatic 17, 3) := by decide +kernel
theorem dX1_holds_11 : decode cX1_holds 11 = .ok (.ifCond .eq 13, 3) := by decide +kernel
theorem dX1_holds_14 : decode cX1_holds 14 = .ok (.iload_n 1, 1) := by decide +kernel
theorem dX1_holds_15 : decode cX1_holds 15 = .ok (.bipush 8, 2) := by decide +kernel
theorem dX1_holds_17 : decode cX1_holds 17 = .ok (.if_icmp .ge 7, 3) := by decide +kernel
theorem dX1_holds_20 : decode cX1_holds 20 = .ok (.iconst 1, 1) := by decide +kernel
theorem dX1_holds_21 : decode cX1_holds 21 = .ok (.goto 4, 3) := by decide +kernel
theorem dX1_holds_24 : decode cX1_holds 24 = .ok (.iconst 0, 1) := by decide +kernel
theorem dX1_holds_25 : decode cX1_holds 25 = .ok (.ireturn, 1) := by decide +kernel
theorem dX1_part_0 : decode cX1_part 0 = .ok (.aload_n 0, 1) := by decide +kernel
theorem dX1_part_1 : decode cX1_part 1 = .ok (.iload_n 1, 1) := by decide +kernel
theorem dX1_part_2 : decode cX1_part 2 = .ok (.invokevirtual 23, 3) := by decide +kernel
theorem dX1_part_5 : decode cX1_part 5 = .ok (.ifCond .eq 27, 3) := by decide +kernel
theorem dX1_part_8 : decode cX1_part 8 = .ok (.iload_n 2, 1) := by decide +kernel
theorem dX1_part_9 : decode cX1_part 9 = .ok (.iconst 0, 1) := by decide +kernel
theorem dX1_part_10 : decode cX1_part 10 = .ok (.iconst 4, 1) := by decide +kernel
theorem dX1_part_11 : decode cX1_part 11 = .ok (.invokestatic 17, 3) := by decide +kernel
theorem dX1_part_14 : decode cX1_part 14 = .ok (.ifCond .eq 18, 3) := by decide +kernel
theorem dX1_part_17 : decode cX1_part 17 = .ok (.aload_n 0, 1) := by decide +kernel
theorem dX1_part_18 : decode cX1_part 18 = .ok (.getfield 9, 3) := by decide +kernel
theorem dX1_part_21 : decode cX1_part 21 = .ok (.iload_n 1, 1) := by decide +kernel
theorem dX1_part_22 : decode cX1_part 22 = .ok (.iconst 5, 1) := by decide +kernel
theorem dX1_part_23 : decode cX1_part 23 = .ok (.imul, 1) := by decide +kernel
theorem dX1_part_24 : decode cX1_part 24 = .ok (.iload_n 2, 1) := by decide +kernel
theorem dX1_part_25 : decode cX1_part 25 = .ok (.iadd, 1) := by decide +kernel
theorem dX1_part_26 : decode cX1_part 26 = .ok (.invokestatic 27, 3) := by decide +kernel
theorem dX1_part_29 : decode cX1_part 29 = .ok (.goto 4, 3) := by decide +kernel
theorem dX1_part_32 : decode cX1_part 32 = .ok (.iconst 0, 1) := by decide +kernel
theorem dX1_part_33 : decode cX1_part 33 = .ok (.ireturn, 1) := by decide +kernel
theorem dX1_clear_0 : decode cX1_clear 0 = .ok (.aload_n 0, 1) := by decide +kernel
theorem dX1_clear_1 : decode cX1_clear 1 = .ok (.getfield 9, 3) := by decide +kernel
theorem dX1_clear_4 : decode cX1_clear 4 = .ok (.bipush 40, 2) := by decide +kernel
theorem dX1_clear_6 : decode cX1_clear 6 = .ok (.iconst 0, 1) := by decide +kernel
theorem dX1_clear_7 : decode cX1_clear 7 = .ok (.iastore, 1) := by decide +kernel
theorem dX1_clear_8 : decode cX1_clear 8 = .ok (.aload_n 0, 1) := by decide +kernel
theorem dX1_clear_9 : decode cX1_clear 9 = .ok (.getfield 9, 3) := by decide +kernel
theorem dX1_clear_12 : decode cX1_clear 12 = .ok (.bipush 41, 2) := by decide +kernel
theorem dX1_clear_14 : decode cX1_clear 14 = .ok (.iconst 0, 1) := by decide +kernel
theorem dX1_clear_15 : decode cX1_clear 15 = .ok (.iastore, 1) := by decide +kernel
theorem dX1_clear_16 : decode cX1_clear 16 = .ok (.return_, 1) := by decide +kernel
theorem dX1_useFlour_0 : decode cX1_useFlour 0 = .ok (.aload_n 0, 1) := by decide +kernel
theorem dX1_useFlour_1 : decode cX1_useFlour 1 = .ok (.getfield 9, 3) := by decide +kernel
theorem dX1_useFlour_4 : decode cX1_useFlour 4 = .ok (.bipush 41, 2) := by decide +kernel
theorem dX1_useFlour_6 : decode cX1_useFlour 6 = .ok (.dup2, 1) := by decide +kernel
theorem dX1_useFlour_7 : decode cX1_useFlour 7 = .ok (.iaload, 1) := by decide +kernel
theorem dX1_useFlour_8 : decode cX1_useFlour 8 = .ok (.iload_n 1, 1) := by decide +kernel
theorem dX1_useFlour_9 : decode cX1_useFlour 9 = .ok (.iadd, 1) := by decide +kernel
theorem dX1_useFlour_10 : decode cX1_useFlour 10 = .ok (.iastore, 1) := by decide +kernel
theorem dX1_useFlour_11 : decode cX1_useFlour 11 = .ok (.return_, 1) := by decide +kernel
theorem dX1_add_0 : decode cX1_add 0 = .ok (.aload_n 0, 1) := by decide +kernel
theorem dX1_add_1 : decode cX1_add 1 = .ok (.invokevirtual 31, 3) := by decide +kernel
theorem dX1_add_4 : decode cX1_add 4 = .ok (.ifCond .eq 4, 3) := by decide +kernel
theorem dX1_add_7 : decode cX1_add 7 = .ok (.return_, 1) := by decide +kernel
theorem dX1_add_8 : decode cX1_add 8 = .ok (.aload_n 0, 1) := by decide +kernel
theorem dX1_add_9 : decode cX1_add 9 = .ok (.invokevirtual 13, 3) := by decide +kernel
theorem dX1_add_12 : decode cX1_add 12 = .ok (.istore 4, 2) := by decide +kernel
theorem dX1_add_14 : decode cX1_add 14 = .ok (.aload_n 0, 1) := by decide +kernel
theorem dX1_add_15 : decode cX1_add 15 = .ok (.getfield 9, 3) := by decide +kernel
theorem dX1_add_18 : decode cX1_add 18 = .ok (.bipush 40, 2) := by decide +kernel
theorem dX1_add_20 : decode cX1_add 20 = .ok (.iload 4, 2) := by decide +kernel
theorem dX1_add_22 : decode cX1_add 22 = .ok (.iconst 1, 1) := by decide +kernel
theorem dX1_add_23 : decode cX1_add 23 = .ok (.iadd, 1) := by decide +kernel
theorem dX1_add_24 : decode cX1_add 24 = .ok (.iastore, 1) := by decide +kernel
theorem dX1_add_25 : decode cX1_add 25 = .ok (.aload_n 0, 1) := by decide +kernel
theorem dX1_add_26 : decode cX1_add 26 = .ok (.iload 4, 2) := by decide +kernel
theorem dX1_add_28 : decode cX1_add 28 = .ok (.iconst 0, 1) := by decide +kernel
theorem dX1_add_29 : decode cX1_add 29 = .ok (.iload_n 1, 1) := by decide +kernel
theorem dX1_add_30 : decode cX1_add 30 = .ok (.invokevirtual 35, 3) := by decide +kernel
theorem dX1_add_33 : decode cX1_add 33 = .ok (.aload_n 0, 1) := by decide +kernel
theorem dX1_add_34 : decode cX1_add 34 = .ok (.iload 4, 2) := by decide +kernel
theorem dX1_add_36 : decode cX1_add 36 = .ok (.iconst 1, 1) := by decide +kernel
theorem dX1_add_37 : decode cX1_add 37 = .ok (.iload_n 2, 1) := by decide +kernel
theorem dX1_add_38 : decode cX1_add 38 = .ok (.invokevirtual 35, 3) := by decide +kernel
theorem dX1_add_41 : decode cX1_add 41 = .ok (.aload_n 0, 1) := by decide +kernel
theorem dX1_add_42 : decode cX1_add 42 = .ok (.iload 4, 2) := by decide +kernel
theorem dX1_add_44 : decode cX1_add 44 = .ok (.iconst 2, 1) := by decide +kernel
theorem dX1_add_45 : decode cX1_add 45 = .ok (.iconst 0, 1) := by decide +kernel
theorem dX1_add_46 : decode cX1_add 46 = .ok (.invokevirtual 35, 3) := by decide +kernel
theorem dX1_add_49 : decode cX1_add 49 = .ok (.aload_n 0, 1) := by decide +kernel
theorem dX1_add_50 : decode cX1_add 50 = .ok (.iload 4, 2) := by decide +kernel
theorem dX1_add_52 : decode cX1_add 52 = .ok (.iconst 3, 1) := by decide +kernel
theorem dX1_add_53 : decode cX1_add 53 = .ok (.iconst 0, 1) := by decide +kernel
theorem dX1_add_54 : decode cX1_add 54 = .ok (.invokevirtual 35, 3) := by decide +kernel
theorem dX1_add_57 : decode cX1_add 57 = .ok (.aload_n 0, 1) := by decide +kernel
theorem dX1_add_58 : decode cX1_add 58 = .ok (.iload 4, 2) := by decide +kernel
theorem dX1_add_60 : decode cX1_add 60 = .ok (.iconst 4, 1) := by decide +kernel
theorem dX1_add_61 : decode cX1_add 61 = .ok (.iload_n 3, 1) := by decide +kernel
theorem dX1_add_62 : decode cX1_add 62 = .ok (.invokevirtual 35, 3) := by decide +kernel
theorem dX1_add_65 : decode cX1_add 65 = .ok (.return_, 1) := by decide +kernel
theorem dX1_addBite_0 : decode cX1_addBite 0 = .ok (.aload_n 0, 1) := by decide +kernel
theorem dX1_addBite_1 : decode cX1_addBite 1 = .ok (.iload_n 1, 1) := by decide +kernel
theorem dX1_addBite_2 : decode cX1_addBite 2 = .ok (.iconst 3, 1) := by decide +kernel
theorem dX1_addBite_3 : decode cX1_addBite 3 = .ok (.aload_n 0, 1) := by decide +kernel
theorem dX1_addBite_4 : decode cX1_addBite 4 = .ok (.iload_n 1, 1) := by decide +kernel
theorem dX1_addBite_5 : decode cX1_addBite 5 = .ok (.iconst 3, 1) := by decide +kernel
theorem dX1_addBite_6 : decode cX1_addBite 6 = .ok (.invokevirtual 39, 3) := by decide +kernel
theorem dX1_addBite_9 : decode cX1_addBite 9 = .ok (.iconst 1, 1) := by decide +kernel
theorem dX1_addBite_10 : decode cX1_addBite 10 = .ok (.iadd, 1) := by decide +kernel
theorem dX1_addBite_11 : decode cX1_addBite 11 = .ok (.invokevirtual 35, 3) := by decide +kernel
theorem dX1_addBite_14 : decode cX1_addBite 14 = .ok (.return_, 1) := by decide +kernel
theorem dX1_passDay_0 : decode cX1_passDay 0 = .ok (.iconst 0, 1) := by decide +kernel
theorem dX1_passDay_1 : decode cX1_passDay 1 = .ok (.istore_n 1, 1) := by decide +kernel
theorem dX1_passDay_2 : decode cX1_passDay 2 = .ok (.iload_n 1, 1) := by decide +kernel
theorem dX1_passDay_3 : decode cX1_passDay 3 = .ok (.aload_n 0, 1) := by decide +kernel
theorem dX1_passDay_4 : decode cX1_passDay 4 = .ok (.invokevirtual 13, 3) := by decide +kernel
theorem dX1_passDay_7 : decode cX1_passDay 7 = .ok (.if_icmp .ge 23, 3) := by decide +kernel
theorem dX1_passDay_10 : decode cX1_passDay 10 = .ok (.aload_n 0, 1) := by decide +kernel
theorem dX1_passDay_11 : decode cX1_passDay 11 = .ok (.iload_n 1, 1) := by decide +kernel
theorem dX1_passDay_12 : decode cX1_passDay 12 = .ok (.iconst 2, 1) := by decide +kernel
theorem dX1_passDay_13 : decode cX1_passDay 13 = .ok (.aload_n 0, 1) := by decide +kernel
theorem dX1_passDay_14 : decode cX1_passDay 14 = .ok (.iload_n 1, 1) := by decide +kernel
theorem dX1_passDay_15 : decode cX1_passDay 15 = .ok (.iconst 2, 1) := by decide +kernel
theorem dX1_passDay_16 : decode cX1_passDay 16 = .ok (.invokevirtual 39, 3) := by decide +kernel
theorem dX1_passDay_19 : decode cX1_passDay 19 = .ok (.iconst 1, 1) := by decide +kernel
theorem dX1_passDay_20 : decode cX1_passDay 20 = .ok (.iadd, 1) := by decide +kernel
theorem dX1_passDay_21 : decode cX1_passDay 21 = .ok (.invokevirtual 35, 3) := by decide +kernel
theorem dX1_passDay_24 : decode cX1_passDay 24 = .ok (.iinc 1 1, 3) := by decide +kernel
theorem dX1_passDay_27 : decode cX1_passDay 27 = .ok (.goto (-25), 3) := by decide +kernel
theorem dX1_passDay_30 : decode cX1_passDay 30 = .ok (.return_, 1) := by decide +kernel
theorem dX1_remove_0 : decode cX1_remove 0 = .ok (.aload_n 0, 1) := by decide +kernel
theorem dX1_remove_1 : decode cX1_remove 1 = .ok (.iload_n 1, 1) := by decide +kernel
theorem dX1_remove_2 : decode cX1_remove 2 = .ok (.invokevirtual 23, 3) := by decide +kernel
theorem dX1_remove_5 : decode cX1_remove 5 = .ok (.ifCond .ne 4, 3) := by decide +kernel
theorem dX1_remove_8 : decode cX1_remove 8 = .ok (.return_, 1) := by decide +kernel
theorem dX1_remove_9 : decode cX1_remove 9 = .ok (.iload_n 1, 1) := by decide +kernel
theorem dX1_remove_10 : decode cX1_remove 10 = .ok (.iconst 1, 1) := by decide +kernel
theorem dX1_remove_11 : decode cX1_remove 11 = .ok (.iadd, 1) := by decide +kernel
theorem dX1_remove_12 : decode cX1_remove 12 = .ok (.istore_n 2, 1) := by decide +kernel
theorem dX1_remove_13 : decode cX1_remove 13 = .ok (.iload_n 2, 1) := by decide +kernel
theorem dX1_remove_14 : decode cX1_remove 14 = .ok (.aload_n 0, 1) := by decide +kernel
theorem dX1_remove_15 : decode cX1_remove 15 = .ok (.invokevirtual 13, 3) := by decide +kernel
theorem dX1_remove_18 : decode cX1_remove 18 = .ok (.if_icmp .ge 36, 3) := by decide +kernel
theorem dX1_remove_21 : decode cX1_remove 21 = .ok (.iconst 0, 1) := by decide +kernel
theorem dX1_remove_22 : decode cX1_remove 22 = .ok (.istore_n 3, 1) := by decide +kernel
theorem dX1_remove_23 : decode cX1_remove 23 = .ok (.iload_n 3, 1) := by decide +kernel
theorem dX1_remove_24 : decode cX1_remove 24 = .ok (.iconst 5, 1) := by decide +kernel
theorem dX1_remove_25 : decode cX1_remove 25 = .ok (.if_icmp .ge 23, 3) := by decide +kernel
theorem dX1_remove_28 : decode cX1_remove 28 = .ok (.aload_n 0, 1) := by decide +kernel
theorem dX1_remove_29 : decode cX1_remove 29 = .ok (.iload_n 2, 1) := by decide +kernel
theorem dX1_remove_30 : decode cX1_remove 30 = .ok (.iconst 1, 1) := by decide +kernel
theorem dX1_remove_31 : decode cX1_remove 31 = .ok (.isub, 1) := by decide +kernel
theorem dX1_remove_32 : decode cX1_remove 32 = .ok (.iload_n 3, 1) := by decide +kernel
theorem dX1_remove_33 : decode cX1_remove 33 = .ok (.aload_n 0, 1) := by decide +kernel
theorem dX1_remove_34 : decode cX1_remove 34 = .ok (.iload_n 2, 1) := by decide +kernel
theorem dX1_remove_35 : decode cX1_remove 35 = .ok (.iload_n 3, 1) := by decide +kernel
theorem dX1_remove_36 : decode cX1_remove 36 = .ok (.invokevirtual 39, 3) := by decide +kernel
theorem dX1_remove_39 : decode cX1_remove 39 = .ok (.invokevirtual 35, 3) := by decide +kernel
theorem dX1_remove_42 : decode cX1_remove 42 = .ok (.iinc 3 1, 3) := by decide +kernel
theorem dX1_remove_45 : decode cX1_remove 45 = .ok (.goto (-22), 3) := by decide +kernel
theorem dX1_remove_48 : decode cX1_remove 48 = .ok (.iinc 2 1, 3) := by decide +kernel
theorem dX1_remove_51 : decode cX1_remove 51 = .ok (.goto (-38), 3) := by decide +kernel
theorem dX1_remove_54 : decode cX1_remove 54 = .ok (.aload_n 0, 1) := by decide +kernel
theorem dX1_remove_55 : decode cX1_remove 55 = .ok (.getfield 9, 3) := by decide +kernel
theorem dX1_remove_58 : decode cX1_remove 58 = .ok (.bipush 40, 2) := by decide +kernel
theorem dX1_remove_60 : decode cX1_remove 60 = .ok (.aload_n 0, 1) := by decide +kernel
theorem dX1_remove_61 : decode cX1_remove 61 = .ok (.invokevirtual 13, 3) := by decide +kernel
theorem dX1_remove_64 : decode cX1_remove 64 = .ok (.iconst 1, 1) := by decide +kernel
theorem dX1_remove_65 : decode cX1_remove 65 = .ok (.isub, 1) := by decide +kernel
theorem dX1_remove_66 : decode cX1_remove 66 = .ok (.iastore, 1) := by decide +kernel
theorem dX1_remove_67 : decode cX1_remove 67 = .ok (.return_, 1) := by decide +kernel
theorem dX1_copyTo_0 : decode cX1_copyTo 0 = .ok (.iload_n 2, 1) := by decide +kernel
theorem dX1_copyTo_1 : decode cX1_copyTo 1 = .ok (.iconst 0, 1) := by decide +kernel
theorem dX1_copyTo_2 : decode cX1_copyTo 2 = .ok (.aload_n 1, 1) := by decide +kernel
theorem dX1_copyTo_3 : decode cX1_copyTo 3 = .ok (.arraylength, 1) := by decide +kernel
theorem dX1_copyTo_4 : decode cX1_copyTo 4 = .ok (.bipush 42, 2) := by decide +kernel
theorem dX1_copyTo_6 : decode cX1_copyTo 6 = .ok (.isub, 1) := by decide +kernel
theorem dX1_copyTo_7 : decode cX1_copyTo 7 = .ok (.invokestatic 17, 3) := by decide +kernel
theorem dX1_copyTo_10 : decode cX1_copyTo 10 = .ok (.ifCond .eq 15, 3) := by decide +kernel
theorem dX1_copyTo_13 : decode cX1_copyTo 13 = .ok (.aload_n 0, 1) := by decide +kernel
theorem dX1_copyTo_14 : decode cX1_copyTo 14 = .ok (.getfield 9, 3) := by decide +kernel
theorem dX1_copyTo_17 : decode cX1_copyTo 17 = .ok (.iconst 0, 1) := by decide +kernel
theorem dX1_copyTo_18 : decode cX1_copyTo 18 = .ok (.aload_n 1, 1) := by decide +kernel
theorem dX1_copyTo_19 : decode cX1_copyTo 19 = .ok (.iload_n 2, 1) := by decide +kernel
theorem dX1_copyTo_20 : decode cX1_copyTo 20 = .ok (.bipush 42, 2) := by decide +kernel
theorem dX1_copyTo_22 : decode cX1_copyTo 22 = .ok (.invokestatic 43, 3) := by decide +kernel
theorem dX1_copyTo_25 : decode cX1_copyTo 25 = .ok (.return_, 1) := by decide +kernel
theorem dX1_copyFrom_0 : decode cX1_copyFrom 0 = .ok (.iload_n 2, 1) := by decide +kernel
theorem dX1_copyFrom_1 : decode cX1_copyFrom 1 = .ok (.iconst 0, 1) := by decide +kernel
theorem dX1_copyFrom_2 : decode cX1_copyFrom 2 = .ok (.aload_n 1, 1) := by decide +kernel
theorem dX1_copyFrom_3 : decode cX1_copyFrom 3 = .ok (.arraylength, 1) := by decide +kernel
theorem dX1_copyFrom_4 : decode cX1_copyFrom 4 = .ok (.bipush 42, 2) := by decide +kernel
theorem dX1_copyFrom_6 : decode cX1_copyFrom 6 = .ok (.isub, 1) := by decide +kernel
theorem dX1_copyFrom_7 : decode cX1_copyFrom 7 = .ok (.invokestatic 17, 3) := by decide +kernel
theorem dX1_copyFrom_10 : decode cX1_copyFrom 10 = .ok (.ifCond .eq 15, 3) := by decide +kernel
theorem dX1_copyFrom_13 : decode cX1_copyFrom 13 = .ok (.aload_n 1, 1) := by decide +kernel
theorem dX1_copyFrom_14 : decode cX1_copyFrom 14 = .ok (.iload_n 2, 1) := by decide +kernel
theorem dX1_copyFrom_15 : decode cX1_copyFrom 15 = .ok (.aload_n 0, 1) := by decide +kernel
theorem dX1_copyFrom_16 : decode cX1_copyFrom 16 = .ok (.getfield 9, 3) := by decide +kernel
theorem dX1_copyFrom_19 : decode cX1_copyFrom 19 = .ok (.iconst 0, 1) := by decide +kernel
theorem dX1_copyFrom_20 : decode cX1_copyFrom 20 = .ok (.bipush 42, 2) := by decide +kernel
theorem dX1_copyFrom_22 : decode cX1_copyFrom 22 = .ok (.invokestatic 43, 3) := by decide +kernel
theorem dX1_copyFrom_25 : decode cX1_copyFrom 25 = .ok (.return_, 1) := by decide +kernel
theorem dX1_change_0 : decode cX1_change 0 = .ok (.aload_n 0, 1) := by decide +kernel
theorem dX1_change_1 : decode cX1_change 1 = .ok (.iload_n 1, 1) := by decide +kernel
theorem dX1_change_2 : decode cX1_change 2 = .ok (.invokevirtual 23, 3) := by decide +kernel
theorem dX1_change_5 : decode cX1_change 5 = .ok (.ifCond .eq 23, 3) := by decide +kernel
theorem dX1_change_8 : decode cX1_change 8 = .ok (.iload_n 2, 1) := by decide +kernel
theorem dX1_change_9 : decode cX1_change 9 = .ok (.iconst 0, 1) := by decide +kernel
theorem dX1_change_10 : decode cX1_change 10 = .ok (.iconst 4, 1) := by decide +kernel
theorem dX1_change_11 : decode cX1_change 11 = .ok (.invokestatic 17, 3) := by decide +kernel
theorem dX1_change_14 : decode cX1_change 14 = .ok (.ifCond .eq 14, 3) := by decide +kernel
theorem dX1_change_17 : decode cX1_change 17 = .ok (.aload_n 0, 1) := by decide +kernel
theorem dX1_change_18 : decode cX1_change 18 = .ok (.getfield 9, 3) := by decide +kernel
theorem dX1_change_21 : decode cX1_change 21 = .ok (.iload_n 1, 1) := by decide +kernel
theorem dX1_change_22 : decode cX1_change 22 = .ok (.iconst 5, 1) := by decide +kernel
theorem dX1_change_23 : decode cX1_change 23 = .ok (.imul, 1) := by decide +kernel
theorem dX1_change_24 : decode cX1_change 24 = .ok (.iload_n 2, 1) := by decide +kernel
theorem dX1_change_25 : decode cX1_change 25 = .ok (.iadd, 1) := by decide +kernel
theorem dX1_change_26 : decode cX1_change 26 = .ok (.iload_n 3, 1) := by decide +kernel
theorem dX1_change_27 : decode cX1_change 27 = .ok (.iastore, 1) := by decide +kernel
theorem dX1_change_28 : decode cX1_change 28 = .ok (.return_, 1) := by decide +kernel
theorem dX2_power_0 : decode cX2_power 0 = .ok (.lconst 1, 1) := by decide +kernel
theorem dX2_power_1 : decode cX2_power 1 = .ok (.lstore_n 3, 1) := by decide +kernel
theorem dX2_power_2 : decode cX2_power 2 = .ok (.iconst 0, 1) := by decide +kernel
theorem dX2_power_3 : decode cX2_power 3 = .ok (.istore 5, 2) := by decide +kernel
theorem dX2_power_5 : decode cX2_power 5 = .ok (.iload 5, 2) := by decide +kernel
theorem dX2_power_7 : decode cX2_power 7 = .ok (.iload_n 2, 1) := by decide +kernel
theorem dX2_power_8 : decode cX2_power 8 = .ok (.if_icmp .ge 13, 3) := by decide +kernel
theorem dX2_power_11 : decode cX2_power 11 = .ok (.lload_n 3, 1) := by decide +kernel
theorem dX2_power_12 : decode cX2_power 12 = .ok (.lload_n 0, 1) := by decide +kernel
theorem dX2_power_13 : decode cX2_power 13 = .ok (.lmul, 1) := by decide +kernel
theorem dX2_power_14 : decode cX2_power 14 = .ok (.lstore_n 3, 1) := by decide +kernel
theorem dX2_power_15 : decode cX2_power 15 = .ok (.iinc 5 1, 3) := by decide +kernel
theorem dX2_power_18 : decode cX2_power 18 = .ok (.goto (-13), 3) := by decide +kernel
theorem dX2_power_21 : decode cX2_power 21 = .ok (.lload_n 3, 1) := by decide +kernel
theorem dX2_power_22 : decode cX2_power 22 = .ok (.lreturn, 1) := by decide +kernel
theorem dX2_choose_0 : decode cX2_choose 0 = .ok (.lconst 1, 1) := by decide +kernel
theorem dX2_choose_1 : decode cX2_choose 1 = .ok (.lstore_n 2, 1) := by decide +kernel
theorem dX2_choose_2 : decode cX2_choose 2 = .ok (.iconst 0, 1) := by decide +kernel
theorem dX2_choose_3 : decode cX2_choose 3 = .ok (.istore 4, 2) := by decide +kernel
theorem dX2_choose_5 : decode cX2_choose 5 = .ok (.iload 4, 2) := by decide +kernel
theorem dX2_choose_7 : decode cX2_choose 7 = .ok (.iload_n 1, 1) := by decide +kernel
theorem dX2_choose_8 : decode cX2_choose 8 = .ok (.if_icmp .ge 23, 3) := by decide +kernel
theorem dX2_choose_11 : decode cX2_choose 11 = .ok (.lload_n 2, 1) := by decide +kernel
theorem dX2_choose_12 : decode cX2_choose 12 = .ok (.iload_n 0, 1) := by decide +kernel
theorem dX2_choose_13 : decode cX2_choose 13 = .ok (.iload 4, 2) := by decide +kernel
theorem dX2_choose_15 : decode cX2_choose 15 = .ok (.isub, 1) := by decide +kernel
theorem dX2_choose_16 : decode cX2_choose 16 = .ok (.i2l, 1) := by decide +kernel
theorem dX2_choose_17 : decode cX2_choose 17 = .ok (.lmul, 1) := by decide +kernel
theorem dX2_choose_18 : decode cX2_choose 18 = .ok (.iload 4, 2) := by decide +kernel
theorem dX2_choose_20 : decode cX2_choose 20 = .ok (.iconst 1, 1) := by decide +kernel
theorem dX2_choose_21 : decode cX2_choose 21 = .ok (.iadd, 1) := by decide +kernel
theorem dX2_choose_22 : decode cX2_choose 22 = .ok (.i2l, 1) := by decide +kernel
theorem dX2_choose_23 : decode cX2_choose 23 = .ok (.ldiv, 1) := by decide +kernel
theorem dX2_choose_24 : decode cX2_choose 24 = .ok (.lstore_n 2, 1) := by decide +kernel
theorem dX2_choose_25 : decode cX2_choose 25 = .ok (.iinc 4 1, 3) := by decide +kernel
theorem dX2_choose_28 : decode cX2_choose 28 = .ok (.goto (-23), 3) := by decide +kernel
theorem dX2_choose_31 : decode cX2_choose 31 = .ok (.lload_n 2, 1) := by decide +kernel
theorem dX2_choose_32 : decode cX2_choose 32 = .ok (.lreturn, 1) := by decide +kernel
theorem dX2_lowest_0 : decode cX2_lowest 0 = .ok (.lload_n 0, 1) := by decide +kernel
theorem dX2_lowest_1 : decode cX2_lowest 1 = .ok (.lload_n 2, 1) := by decide +kernel
theorem dX2_lowest_2 : decode cX2_lowest 2 = .ok (.invokestatic 7, 3) := by decide +kernel
theorem dX2_lowest_5 : decode cX2_lowest 5 = .ok (.lstore 5, 2) := by decide +kernel
theorem dX2_lowest_7 : decode cX2_lowest 7 = .ok (.iload 4, 2) := by decide +kernel
theorem dX2_lowest_9 : decode cX2_lowest 9 = .ok (.ifCond .ne 7, 3) := by decide +kernel
theorem dX2_lowest_12 : decode cX2_lowest 12 = .ok (.lload_n 0, 1) := by decide +kernel
theorem dX2_lowest_13 : decode cX2_lowest 13 = .ok (.goto 4, 3) := by decide +kernel
theorem dX2_lowest_16 : decode cX2_lowest 16 = .ok (.lload_n 2, 1) := by decide +kernel
theorem dX2_lowest_17 : decode cX2_lowest 17 = .ok (.lstore 7, 2) := by decide +kernel
theorem dX2_lowest_19 : decode cX2_lowest 19 = .ok (.lload 5, 2) := by decide +kernel
theorem dX2_lowest_21 : decode cX2_lowest 21 = .ok (.lconst 0, 1) := by decide +kernel
theorem dX2_lowest_22 : decode cX2_lowest 22 = .ok (.lcmp, 1) := by decide +kernel
theorem dX2_lowest_23 : decode cX2_lowest 23 = .ok (.ifCond .le 11, 3) := by decide +kernel
theorem dX2_lowest_26 : decode cX2_lowest 26 = .ok (.lload 7, 2) := by decide +kernel
theorem dX2_lowest_28 : decode cX2_lowest 28 = .ok (.lload 5, 2) := by decide +kernel
theorem dX2_lowest_30 : decode cX2_lowest 30 = .ok (.ldiv, 1) := by decide +kernel
theorem dX2_lowest_31 : decode cX2_lowest 31 = .ok (.goto 5, 3) := by decide +kernel
theorem dX2_lowest_34 : decode cX2_lowest 34 = .ok (.lload 7, 2) := by decide +kernel
theorem dX2_lowest_36 : decode cX2_lowest 36 = .ok (.lreturn, 1) := by decide +kernel
theorem dX2_commonDivisor_0 : decode cX2_commonDivisor 0 = .ok (.lload_n 0, 1) := by decide +kernel
theorem dX2_commonDivisor_1 : decode cX2_commonDivisor 1 = .ok (.lstore 4, 2) := by decide +kernel
theorem dX2_commonDivisor_3 : decode cX2_commonDivisor 3 = .ok (.lload_n 2, 1) := by decide +kernel
theorem dX2_commonDivisor_4 : decode cX2_commonDivisor 4 = .ok (.lstore 6, 2) := by decide +kernel
theorem dX2_commonDivisor_6 : decode cX2_commonDivisor 6 = .ok (.iconst 0, 1) := by decide +kernel
theorem dX2_commonDivisor_7 : decode cX2_commonDivisor 7 = .ok (.istore 8, 2) := by decide +kernel
theorem dX2_commonDivisor_9 : decode cX2_commonDivisor 9 = .ok (.iload 8, 2) := by decide +kernel
theorem dX2_commonDivisor_11 : decode cX2_commonDivisor 11 = .ok (.bipush 100, 2) := by decide +kernel
theorem dX2_commonDivisor_13 : decode cX2_commonDivisor 13 = .ok (.if_icmp .ge 31, 3) := by decide +kernel
theorem dX2_commonDivisor_16 : decode cX2_commonDivisor 16 = .ok (.lload 6, 2) := by decide +kernel
theorem dX2_commonDivisor_18 : decode cX2_commonDivisor 18 = .ok (.lconst 0, 1) := by decide +kernel
theorem dX2_commonDivisor_19 : decode cX2_commonDivisor 19 = .ok (.lcmp, 1) := by decide +kernel
theorem dX2_commonDivisor_20 : decode cX2_commonDivisor 20 = .ok (.ifCond .eq 24, 3) := by decide +kernel
theorem dX2_commonDivisor_23 : decode cX2_commonDivisor 23 = .ok (.lload 4, 2) := by decide +kernel
theorem dX2_commonDivisor_25 : decode cX2_commonDivisor 25 = .ok (.lload 6, 2) := by decide +kernel
theorem dX2_commonDivisor_27 : decode cX2_commonDivisor 27 = .ok (.lrem, 1) := by decide +kernel
theorem dX2_commonDivisor_28 : decode cX2_commonDivisor 28 = .ok (.lstore 9, 2) := by decide +kernel
theorem dX2_commonDivisor_30 : decode cX2_commonDivisor 30 = .ok (.lload 6, 2) := by decide +kernel
theorem dX2_commonDivisor_32 : decode cX2_commonDivisor 32 = .ok (.lstore 4, 2) := by decide +kernel
theorem dX2_commonDivisor_34 : decode cX2_commonDivisor 34 = .ok (.lload 9, 2) := by decide +kernel
theorem dX2_commonDivisor_36 : decode cX2_commonDivisor 36 = .ok (.lstore 6, 2) := by decide +kernel
theorem dX2_commonDivisor_38 : decode cX2_commonDivisor 38 = .ok (.iinc 8 1, 3) := by decide +kernel
theorem dX2_commonDivisor_41 : decode cX2_commonDivisor 41 = .ok (.goto (-32), 3) := by decide +kernel
theorem dX2_commonDivisor_44 : decode cX2_commonDivisor 44 = .ok (.lload 4, 2) := by decide +kernel
theorem dX2_commonDivisor_46 : decode cX2_commonDivisor 46 = .ok (.lreturn, 1) := by decide +kernel
theorem dX3_init_0 : decode cX3_init 0 = .ok (.aload_n 0, 1) := by decide +kernel
theorem dX3_init_1 : decode cX3_init 1 = .ok (.invokespecial 3, 3) := by decide +kernel
theorem dX3_init_4 : decode cX3_init 4 = .ok (.aload_n 0, 1) := by decide +kernel
theorem dX3_init_5 : decode cX3_init 5 = .ok (.bipush 72, 2) := by decide +kernel
theorem dX3_init_7 : decode cX3_init 7 = .ok (.newarray .long, 2) := by decide +kernel
theorem dX3_init_9 : decode cX3_init 9 = .ok (.putfield 9, 3) := by decide +kernel
theorem dX3_init_12 : decode cX3_init 12 = .ok (.aload_n 0, 1) := by decide +kernel
theorem dX3_init_13 : decode cX3_init 13 = .ok (.bipush 72, 2) := by decide +kernel
theorem dX3_init_15 : decode cX3_init 15 = .ok (.newarray .long, 2) := by decide +kernel
theorem dX3_init_17 : decode cX3_init 17 = .ok (.putfield 15, 3) := by decide +kernel
theorem dX3_init_20 : decode cX3_init 20 = .ok (.return_, 1) := by decide +kernel
theorem dX3_fill_0 : decode cX3_fill 0 = .ok (.iload_n 2, 1) := by decide +kernel
theorem dX3_fill_1 : decode cX3_fill 1 = .ok (.invokestatic 18, 3) := by decide +kernel
theorem dX3_fill_4 : decode cX3_fill 4 = .ok (.ifCond .ne 4, 3) := by decide +kernel
theorem dX3_fill_7 : decode cX3_fill 7 = .ok (.return_, 1) := by decide +kernel
theorem dX3_fill_8 : decode cX3_fill 8 = .ok (.aload_n 0, 1) := by decide +kernel
theorem dX3_fill_9 : decode cX3_fill 9 = .ok (.getfield 9, 3) := by decide +kernel
theorem dX3_fill_12 : decode cX3_fill 12 = .ok (.iload_n 2, 1) := by decide +kernel
theorem dX3_fill_13 : decode cX3_fill 13 = .ok (.lconst 0, 1) := by decide +kernel
theorem dX3_fill_14 : decode cX3_fill 14 = .ok (.lastore, 1) := by decide +kernel
theorem dX3_fill_15 : decode cX3_fill 15 = .ok (.aload_n 0, 1) := by decide +kernel
theorem dX3_fill_16 : decode cX3_fill 16 = .ok (.getfield 15, 3) := by decide +kernel
theorem dX3_fill_19 : decode cX3_fill 19 = .ok (.iload_n 2, 1) := by decide +kernel
theorem dX3_fill_20 : decode cX3_fill 20 = .ok (.lconst 0, 1) := by decide +kernel
theorem dX3_fill_21 : decode cX3_fill 21 = .ok (.lastore, 1) := by decide +kernel
theorem dX3_fill_22 : decode cX3_fill 22 = .ok (.bipush (-4), 2) := by decide +kernel
theorem dX3_fill_24 : decode cX3_fill 24 = .ok (.istore 5, 2) := by decide +kernel
theorem dX3_fill_26 : decode cX3_fill 26 = .ok (.iconst 0, 1) := by decide +kernel
theorem dX3_fill_27 : decode cX3_fill 27 = .ok (.istore 6, 2) := by decide +kernel
theorem dX3_fill_29 : decode cX3_fill 29 = .ok (.iload 6, 2) := by decide +kernel
theorem dX3_fill_31 : decode cX3_fill 31 = .ok (.iload_n 3, 1) := by decide +kernel
theorem dX3_fill_32 : decode cX3_fill 32 = .ok (.if_icmp .gt 38, 3) := by decide +kernel
theorem dX3_fill_35 : decode cX3_fill 35 = .ok (.aload_n 1, 1) := by decide +kernel
theorem dX3_fill_36 : decode cX3_fill 36 = .ok (.iload_n 2, 1) := by decide +kernel
theorem dX3_fill_37 : decode cX3_fill 37 = .ok (.iload 6, 2) := by decide +kernel
theorem dX3_fill_39 : decode cX3_fill 39 = .ok (.invokevirtual 22, 3) := by decide +kernel
theorem dX3_fill_42 : decode cX3_fill 42 = .ok (.istore 7, 2) := by decide +kernel
theorem dX3_fill_44 : decode cX3_fill 44 = .ok (.iload 7, 2) := by decide +kernel
theorem dX3_fill_46 : decode cX3_fill 46 = .ok (.iload 5, 2) := by decide +kernel
theorem dX3_fill_48 : decode cX3_fill 48 = .ok (.if_icmp .eq 16, 3) := by decide +kernel
theorem dX3_fill_51 : decode cX3_fill 51 = .ok (.aload_n 0, 1) := by decide +kernel
theorem dX3_fill_52 : decode cX3_fill 52 = .ok (.iload_n 2, 1) := by decide +kernel
theorem dX3_fill_53 : decode cX3_fill 53 = .ok (.iload 7, 2) := by decide +kernel
theorem dX3_fill_55 : decode cX3_fill 55 = .ok (.iload 4, 2) := by decide +kernel
theorem dX3_fill_57 : decode cX3_fill 57 = .ok (.invokevirtual 28, 3) := by decide +kernel
theorem dX3_fill_60 : decode cX3_fill 60 = .ok (.iload 7, 2) := by decide +kernel
theorem dX3_fill_62 : decode cX3_fill 62 = .ok (.istore 5, 2) := by decide +kernel
theorem dX3_fill_64 : decode cX3_fill 64 = .ok (.iinc 6 1, 3) := by decide +kernel
theorem dX3_fill_67 : decode cX3_fill 67 = .ok (.goto (-38), 3) := by decide +kernel
theorem dX3_fill_70 : decode cX3_fill 70 = .ok (.return_, 1) := by decide +kernel
theorem dX3_markBitten_0 : decode cX3_markBitten 0 = .ok (.iload_n 2, 1) := by decide +kernel
theorem dX3_markBitten_1 : decode cX3_markBitten 1 = .ok (.istore 4, 2) := by decide +kernel
theorem dX3_markBitten_3 : decode cX3_markBitten 3 = .ok (.aload_n 0, 1) := by decide +kernel
theorem dX3_markBitten_4 : decode cX3_markBitten 4 = .ok (.iload_n 1, 1) := by decide +kernel
theorem dX3_markBitten_5 : decode cX3_markBitten 5 = .ok (.iload 4, 2) := by decide +kernel
theorem dX3_markBitten_7 : decode cX3_markBitten 7 = .ok (.invokevirtual 32, 3) := by decide +kernel
theorem dX3_markBitten_10 : decode cX3_markBitten 10 = .ok (.iconst 0, 1) := by decide +kernel
theorem dX3_markBitten_11 : decode cX3_markBitten 11 = .ok (.istore 5, 2) := by decide +kernel
theorem dX3_markBitten_13 : decode cX3_markBitten 13 = .ok (.iload 5, 2) := by decide +kernel
theorem dX3_markBitten_15 : decode cX3_markBitten 15 = .ok (.iload_n 3, 1) := by decide +kernel
theorem dX3_markBitten_16 : decode cX3_markBitten 16 = .ok (.if_icmp .ge 23, 3) := by decide +kernel
theorem dX3_markBitten_19 : decode cX3_markBitten 19 = .ok (.iload 4, 2) := by decide +kernel
theorem dX3_markBitten_21 : decode cX3_markBitten 21 = .ok (.invokestatic 36, 3) := by decide +kernel
theorem dX3_markBitten_24 : decode cX3_markBitten 24 = .ok (.istore 4, 2) := by decide +kernel
theorem dX3_markBitten_26 : decode cX3_markBitten 26 = .ok (.aload_n 0, 1) := by decide +kernel
theorem dX3_markBitten_27 : decode cX3_markBitten 27 = .ok (.iload_n 1, 1) := by decide +kernel
theorem dX3_markBitten_28 : decode cX3_markBitten 28 = .ok (.iload 4, 2) := by decide +kernel
theorem dX3_markBitten_30 : decode cX3_markBitten 30 = .ok (.invokevirtual 32, 3) := by decide +kernel
theorem dX3_markBitten_33 : decode cX3_markBitten 33 = .ok (.iinc 5 1, 3) := by decide +kernel
theorem dX3_markBitten_36 : decode cX3_markBitten 36 = .ok (.goto (-23), 3) := by decide +kernel
theorem dX3_markBitten_39 : decode cX3_markBitten 39 = .ok (.return_, 1) := by decide +kernel
theorem dX3_sizeOf_0 : decode cX3_sizeOf 0 = .ok (.iload_n 1, 1) := by decide +kernel
theorem dX3_sizeOf_1 : decode cX3_sizeOf 1 = .ok (.invokestatic 18, 3) := by decide +kernel
theorem dX3_sizeOf_4 : decode cX3_sizeOf 4 = .ok (.ifCond .eq 25, 3) := by decide +kernel
theorem dX3_sizeOf_7 : decode cX3_sizeOf 7 = .ok (.aload_n 0, 1) := by decide +kernel
theorem dX3_sizeOf_8 : decode cX3_sizeOf 8 = .ok (.getfield 9, 3) := by decide +kernel
theorem dX3_sizeOf_11 : decode cX3_sizeOf 11 = .ok (.iload_n 1, 1) := by decide +kernel
theorem dX3_sizeOf_12 : decode cX3_sizeOf 12 = .ok (.laload, 1) := by decide +kernel
theorem dX3_sizeOf_13 : decode cX3_sizeOf 13 = .ok (.invokestatic 42, 3) := by decide +kernel
theorem dX3_sizeOf_16 : decode cX3_sizeOf 16 = .ok (.aload_n 0, 1) := by decide +kernel
theorem dX3_sizeOf_17 : decode cX3_sizeOf 17 = .ok (.getfield 15, 3) := by decide +kernel
theorem dX3_sizeOf_20 : decode cX3_sizeOf 20 = .ok (.iload_n 1, 1) := by decide +kernel
theorem dX3_sizeOf_21 : decode cX3_sizeOf 21 = .ok (.laload, 1) := by decide +kernel
theorem dX3_sizeOf_22 : decode cX3_sizeOf 22 = .ok (.invokestatic 42, 3) := by decide +kernel
theorem dX3_sizeOf_25 : decode cX3_sizeOf 25 = .ok (.iadd, 1) := by decide +kernel
theorem dX3_sizeOf_26 : decode cX3_sizeOf 26 = .ok (.goto 4, 3) := by decide +kernel
theorem dX3_sizeOf_29 : decode cX3_sizeOf 29 = .ok (.iconst 0, 1) := by decide +kernel
theorem dX3_sizeOf_30 : decode cX3_sizeOf 30 = .ok (.ireturn, 1) := by decide +kernel
theorem dX3_holds_0 : decode cX3_holds 0 = .ok (.iload_n 1, 1) := by decide +kernel
theorem dX3_holds_1 : decode cX3_holds 1 = .ok (.invokestatic 18, 3) := by decide +kernel
theorem dX3_holds_4 : decode cX3_holds 4 = .ok (.ifCond .eq 10, 3) := by decide +kernel
theorem dX3_holds_7 : decode cX3_holds 7 = .ok (.iload_n 2, 1) := by decide +kernel
theorem dX3_holds_8 : decode cX3_holds 8 = .ok (.invokestatic 18, 3) := by decide +kernel
theorem dX3_holds_11 : decode cX3_holds 11 = .ok (.ifCond .ne 5, 3) := by decide +kernel
theorem dX3_holds_14 : decode cX3_holds 14 = .ok (.iconst 0, 1) := by decide +kernel
theorem dX3_holds_15 : decode cX3_holds 15 = .ok (.ireturn, 1) := by decide +kernel
theorem dX3_holds_16 : decode cX3_holds 16 = .ok (.iload_n 2, 1) := by decide +kernel
theorem dX3_holds_17 : decode cX3_holds 17 = .ok (.bipush 64, 2) := by decide +kernel
theorem dX3_holds_19 : decode cX3_holds 19 = .ok (.if_icmp .ge 12, 3) := by decide +kernel
theorem dX3_holds_22 : decode cX3_holds 22 = .ok (.aload_n 0, 1) := by decide +kernel
theorem dX3_holds_23 : decode cX3_holds 23 = .ok (.getfield 9, 3) := by decide +kernel
theorem dX3_holds_26 : decode cX3_holds 26 = .ok (.iload_n 1, 1) := by decide +kernel
theorem dX3_holds_27 : decode cX3_holds 27 = .ok (.laload, 1) := by decide +kernel
theorem dX3_holds_28 : decode cX3_holds 28 = .ok (.goto 9, 3) := by decide +kernel
theorem dX3_holds_31 : decode cX3_holds 31 = .ok (.aload_n 0, 1) := by decide +kernel
theorem dX3_holds_32 : decode cX3_holds 32 = .ok (.getfield 15, 3) := by decide +kernel
theorem dX3_holds_35 : decode cX3_holds 35 = .ok (.iload_n 1, 1) := by decide +kernel
theorem dX3_holds_36 : decode cX3_holds 36 = .ok (.laload, 1) := by decide +kernel
theorem dX3_holds_37 : decode cX3_holds 37 = .ok (.lstore_n 3, 1) := by decide +kernel
theorem dX3_holds_38 : decode cX3_holds 38 = .ok (.lload_n 3, 1) := by decide +kernel
theorem dX3_holds_39 : decode cX3_holds 39 = .ok (.iload_n 2, 1) := by decide +kernel
theorem dX3_holds_40 : decode cX3_holds 40 = .ok (.bipush 63, 2) := by decide +kernel
theorem dX3_holds_42 : decode cX3_holds 42 = .ok (.iand, 1) := by decide +kernel
theorem dX3_holds_43 : decode cX3_holds 43 = .ok (.lushr, 1) := by decide +kernel
theorem dX3_holds_44 : decode cX3_holds 44 = .ok (.lconst 1, 1) := by decide +kernel
theorem dX3_holds_45 : decode cX3_holds 45 = .ok (.land, 1) := by decide +kernel
theorem dX3_holds_46 : decode cX3_holds 46 = .ok (.lconst 1, 1) := by decide +kernel
theorem dX3_holds_47 : decode cX3_holds 47 = .ok (.lcmp, 1) := by decide +kernel
theorem dX3_holds_48 : decode cX3_holds 48 = .ok (.ifCond .ne 7, 3) := by decide +kernel
theorem dX3_holds_51 : decode cX3_holds 51 = .ok (.iconst 1, 1) := by decide +kernel
theorem dX3_holds_52 : decode cX3_holds 52 = .ok (.goto 4, 3) := by decide +kernel
theorem dX3_holds_55 : decode cX3_holds 55 = .ok (.iconst 0, 1) := by decide +kernel
theorem dX3_holds_56 : decode cX3_holds 56 = .ok (.ireturn, 1) := by decide +kernel
theorem dX3_meet_0 : decode cX3_meet 0 = .ok (.iload_n 1, 1) := by decide +kernel
theorem dX3_meet_1 : decode cX3_meet 1 = .ok (.invokestatic 18, 3) := by decide +kernel
theorem dX3_meet_4 : decode cX3_meet 4 = .ok (.ifCond .eq 50, 3) := by decide +kernel
theorem dX3_meet_7 : decode cX3_meet 7 = .ok (.iload_n 2, 1) := by decide +kernel
theorem dX3_meet_8 : decode cX3_meet 8 = .ok (.invokestatic 18, 3) := by decide +kernel
theorem dX3_meet_11 : decode cX3_meet 11 = .ok (.ifCond .eq 43, 3) := by decide +kernel
theorem dX3_meet_14 : decode cX3_meet 14 = .ok (.aload_n 0, 1) := by decide +kernel
theorem dX3_meet_15 : decode cX3_meet 15 = .ok (.getfield 9, 3) := by decide +kernel
theorem dX3_meet_18 : decode cX3_meet 18 = .ok (.iload_n 1, 1) := by decide +kernel
theorem dX3_meet_19 : decode cX3_meet 19 = .ok (.laload, 1) := by decide +kernel
theorem dX3_meet_20 : decode cX3_meet 20 = .ok (.aload_n 0, 1) := by decide +kernel
theorem dX3_meet_21 : decode cX3_meet 21 = .ok (.getfield 9, 3) := by decide +kernel
theorem dX3_meet_24 : decode cX3_meet 24 = .ok (.iload_n 2, 1) := by decide +kernel
theorem dX3_meet_25 : decode cX3_meet 25 = .ok (.laload, 1) := by decide +kernel
theorem dX3_meet_26 : decode cX3_meet 26 = .ok (.land, 1) := by decide +kernel
theorem dX3_meet_27 : decode cX3_meet 27 = .ok (.lconst 0, 1) := by decide +kernel
theorem dX3_meet_28 : decode cX3_meet 28 = .ok (.lcmp, 1) := by decide +kernel
theorem dX3_meet_29 : decode cX3_meet 29 = .ok (.ifCond .ne 21, 3) := by decide +kernel
theorem dX3_meet_32 : decode cX3_meet 32 = .ok (.aload_n 0, 1) := by decide +kernel
theorem dX3_meet_33 : decode cX3_meet 33 = .ok (.getfield 15, 3) := by decide +kernel
theorem dX3_meet_36 : decode cX3_meet 36 = .ok (.iload_n 1, 1) := by decide +kernel
theorem dX3_meet_37 : decode cX3_meet 37 = .ok (.laload, 1) := by decide +kernel
theorem dX3_meet_38 : decode cX3_meet 38 = .ok (.aload_n 0, 1) := by decide +kernel
theorem dX3_meet_39 : decode cX3_meet 39 = .ok (.getfield 15, 3) := by decide +kernel
theorem dX3_meet_42 : decode cX3_meet 42 = .ok (.iload_n 2, 1) := by decide +kernel
theorem dX3_meet_43 : decode cX3_meet 43 = .ok (.laload, 1) := by decide +kernel
theorem dX3_meet_44 : decode cX3_meet 44 = .ok (.land, 1) := by decide +kernel
theorem dX3_meet_45 : decode cX3_meet 45 = .ok (.lconst 0, 1) := by decide +kernel
theorem dX3_meet_46 : decode cX3_meet 46 = .ok (.lcmp, 1) := by decide +kernel
theorem dX3_meet_47 : decode cX3_meet 47 = .ok (.ifCond .eq 7, 3) := by decide +kernel
theorem dX3_meet_50 : decode cX3_meet 50 = .ok (.iconst 1, 1) := by decide +kernel
theorem dX3_meet_51 : decode cX3_meet 51 = .ok (.goto 4, 3) := by decide +kernel
theorem dX3_meet_54 : decode cX3_meet 54 = .ok (.iconst 0, 1) := by decide +kernel
theorem dX3_meet_55 : decode cX3_meet 55 = .ok (.ireturn, 1) := by decide +kernel
theorem dX3_mark_0 : decode cX3_mark 0 = .ok (.iload_n 1, 1) := by decide +kernel
theorem dX3_mark_1 : decode cX3_mark 1 = .ok (.invokestatic 18, 3) := by decide +kernel
theorem dX3_mark_4 : decode cX3_mark 4 = .ok (.ifCond .ne 4, 3) := by decide +kernel
theorem dX3_mark_7 : decode cX3_mark 7 = .ok (.return_, 1) := by decide +kernel
theorem dX3_mark_8 : decode cX3_mark 8 = .ok (.iload_n 2, 1) := by decide +kernel
theorem dX3_mark_9 : decode cX3_mark 9 = .ok (.bipush 64, 2) := by decide +kernel
theorem dX3_mark_11 : decode cX3_mark 11 = .ok (.if_icmp .ge 18, 3) := by decide +kernel
theorem dX3_mark_14 : decode cX3_mark 14 = .ok (.aload_n 0, 1) := by decide +kernel
theorem dX3_mark_15 : decode cX3_mark 15 = .ok (.getfield 9, 3) := by decide +kernel
theorem dX3_mark_18 : decode cX3_mark 18 = .ok (.iload_n 1, 1) := by decide +kernel
theorem dX3_mark_19 : decode cX3_mark 19 = .ok (.dup2, 1) := by decide +kernel
theorem dX3_mark_20 : decode cX3_mark 20 = .ok (.laload, 1) := by decide +kernel
theorem dX3_mark_21 : decode cX3_mark 21 = .ok (.lconst 1, 1) := by decide +kernel
theorem dX3_mark_22 : decode cX3_mark 22 = .ok (.iload_n 2, 1) := by decide +kernel
theorem dX3_mark_23 : decode cX3_mark 23 = .ok (.lshl, 1) := by decide +kernel
theorem dX3_mark_24 : decode cX3_mark 24 = .ok (.lor, 1) := by decide +kernel
theorem dX3_mark_25 : decode cX3_mark 25 = .ok (.lastore, 1) := by decide +kernel
theorem dX3_mark_26 : decode cX3_mark 26 = .ok (.goto 18, 3) := by decide +kernel
theorem dX3_mark_29 : decode cX3_mark 29 = .ok (.aload_n 0, 1) := by decide +kernel
theorem dX3_mark_30 : decode cX3_mark 30 = .ok (.getfield 15, 3) := by decide +kernel
theorem dX3_mark_33 : decode cX3_mark 33 = .ok (.iload_n 1, 1) := by decide +kernel
theorem dX3_mark_34 : decode cX3_mark 34 = .ok (.dup2, 1) := by decide +kernel
theorem dX3_mark_35 : decode cX3_mark 35 = .ok (.laload, 1) := by decide +kernel
theorem dX3_mark_36 : decode cX3_mark 36 = .ok (.lconst 1, 1) := by decide +kernel
theorem dX3_mark_37 : decode cX3_mark 37 = .ok (.iload_n 2, 1) := by decide +kernel
theorem dX3_mark_38 : decode cX3_mark 38 = .ok (.bipush 64, 2) := by decide +kernel
theorem dX3_mark_40 : decode cX3_mark 40 = .ok (.isub, 1) := by decide +kernel
theorem dX3_mark_41 : decode cX3_mark 41 = .ok (.lshl, 1) := by decide +kernel
theorem dX3_mark_42 : decode cX3_mark 42 = .ok (.lor, 1) := by decide +kernel
theorem dX3_mark_43 : decode cX3_mark 43 = .ok (.lastore, 1) := by decide +kernel
theorem dX3_mark_44 : decode cX3_mark 44 = .ok (.return_, 1) := by decide +kernel
theorem dX4_init_0 : decode cX4_init 0 = .ok (.aload_n 0, 1) := by decide +kernel
theorem dX4_init_1 : decode cX4_init 1 = .ok (.invokespecial 3, 3) := by decide +kernel
theorem dX4_init_4 : decode cX4_init 4 = .ok (.aload_n 0, 1) := by decide +kernel
theorem dX4_init_5 : decode cX4_init 5 = .ok (.iconst 4, 1) := by decide +kernel
theorem dX4_init_6 : decode cX4_init 6 = .ok (.newarray .int, 2) := by decide +kernel
theorem dX4_init_8 : decode cX4_init 8 = .ok (.putfield 9, 3) := by decide +kernel
theorem dX4_init_11 : decode cX4_init 11 = .ok (.return_, 1) := by decide +kernel
theorem dX4_firstFault_0 : decode cX4_firstFault 0 = .ok (.aload_n 2, 1) := by decide +kernel
theorem dX4_firstFault_1 : decode cX4_firstFault 1 = .ok (.invokevirtual 15, 3) := by decide +kernel
theorem dX4_firstFault_4 : decode cX4_firstFault 4 = .ok (.aload_n 0, 1) := by decide +kernel
theorem dX4_firstFault_5 : decode cX4_firstFault 5 = .ok (.iconst 0, 1) := by decide +kernel
theorem dX4_firstFault_6 : decode cX4_firstFault 6 = .ok (.putfield 20, 3) := by decide +kernel
theorem dX4_firstFault_9 : decode cX4_firstFault 9 = .ok (.iconst 0, 1) := by decide +kernel
theorem dX4_firstFault_10 : decode cX4_firstFault 10 = .ok (.istore_n 3, 1) := by decide +kernel
theorem dX4_firstFault_11 : decode cX4_firstFault 11 = .ok (.iload_n 3, 1) := by decide +kernel
theorem dX4_firstFault_12 : decode cX4_firstFault 12 = .ok (.sipush 300, 3) := by decide +kernel
theorem dX4_firstFault_15 : decode cX4_firstFault 15 = .ok (.if_icmp .ge 38, 3) := by decide +kernel
theorem dX4_firstFault_18 : decode cX4_firstFault 18 = .ok (.aload_n 0, 1) := by decide +kernel
theorem dX4_firstFault_19 : decode cX4_firstFault 19 = .ok (.getfield 20, 3) := by decide +kernel
theorem dX4_firstFault_22 : decode cX4_firstFault 22 = .ok (.aload_n 1, 1) := by decide +kernel
theorem dX4_firstFault_23 : decode cX4_firstFault 23 = .ok (.invokevirtual 26, 3) := by decide +kernel
theorem dX4_firstFault_26 : decode cX4_firstFault 26 = .ok (.if_icmp .ge 27, 3) := by decide +kernel
theorem dX4_firstFault_29 : decode cX4_firstFault 29 = .ok (.aload_n 0, 1) := by decide +kernel
theorem dX4_firstFault_30 : decode cX4_firstFault 30 = .ok (.getfield 20, 3) := by decide +kernel
theorem dX4_firstFault_33 : decode cX4_firstFault 33 = .ok (.istore 4, 2) := by decide +kernel
theorem dX4_firstFault_35 : decode cX4_firstFault 35 = .ok (.aload_n 0, 1) := by decide +kernel
theorem dX4_firstFault_36 : decode cX4_firstFault 36 = .ok (.aload_n 1, 1) := by decide +kernel
theorem dX4_firstFault_37 : decode cX4_firstFault 37 = .ok (.aload_n 2, 1) := by decide +kernel
theorem dX4_firstFault_38 : decode cX4_firstFault 38 = .ok (.invokevirtual 30, 3) := by decide +kernel
theorem dX4_firstFault_41 : decode cX4_firstFault 41 = .ok (.ifCond .ne 6, 3) := by decide +kernel
theorem dX4_firstFault_44 : decode cX4_firstFault 44 = .ok (.iload 4, 2) := by decide +kernel
theorem dX4_firstFault_46 : decode cX4_firstFault 46 = .ok (.ireturn, 1) := by decide +kernel
theorem dX4_firstFault_47 : decode cX4_firstFault 47 = .ok (.iinc 3 1, 3) := by decide +kernel
theorem dX4_firstFault_50 : decode cX4_firstFault 50 = .ok (.goto (-39), 3) := by decide +kernel
theorem dX4_firstFault_53 : decode cX4_firstFault 53 = .ok (.bipush (-4), 2) := by decide +kernel
theorem dX4_firstFault_55 : decode cX4_firstFault 55 = .ok (.ireturn, 1) := by decide +kernel
theorem dX4_readItem_0 : decode cX4_readItem 0 = .ok (.aload_n 1, 1) := by decide +kernel
theorem dX4_readItem_1 : decode cX4_readItem 1 = .ok (.aload_n 0, 1) := by decide +kernel
theorem dX4_readItem_2 : decode cX4_readItem 2 = .ok (.getfield 20, 3) := by decide +kernel
theorem dX4_readItem_5 : decode cX4_readItem 5 = .ok (.invokevirtual 34, 3) := by decide +kernel
theorem dX4_readItem_8 : decode cX4_readItem 8 = .ok (.istore_n 3, 1) := by decide +kernel
theorem dX4_readItem_9 : decode cX4_readItem 9 = .ok (.aload_n 0, 1) := by decide +kernel
theorem dX4_readItem_10 : decode cX4_readItem 10 = .ok (.dup, 1) := by decide +kernel
theorem dX4_readItem_11 : decode cX4_readItem 11 = .ok (.getfield 20, 3) := by decide +kernel
theorem dX4_readItem_14 : decode cX4_readItem 14 = .ok (.iconst 1, 1) := by decide +kernel
theorem dX4_readItem_15 : decode cX4_readItem 15 = .ok (.iadd, 1) := by decide +kernel
theorem dX4_readItem_16 : decode cX4_readItem 16 = .ok (.putfield 20, 3) := by decide +kernel
theorem dX4_readItem_19 : decode cX4_readItem 19 = .ok (.iload_n 3, 1) := by decide +kernel
theorem dX4_readItem_20 : decode cX4_readItem 20 = .ok (.lookupswitch 186 #[(98, 90), (99, 124), (107, 158), (119, 44)], 44) := by decide +kernel
theorem dX4_readItem_64 : decode cX4_readItem 64 = .ok (.aload_n 0, 1) := by decide +kernel
theorem dX4_readItem_65 : decode cX4_readItem 65 = .ok (.aload_n 1, 1) := by decide +kernel
theorem dX4_readItem_66 : decode cX4_readItem 66 = .ok (.iconst 4, 1) := by decide +kernel
theorem dX4_readItem_67 : decode cX4_readItem 67 = .ok (.invokevirtual 38, 3) := by decide +kernel
theorem dX4_readItem_70 : decode cX4_readItem 70 = .ok (.ifCond .eq 38, 3) := by decide +kernel
theorem dX4_readItem_73 : decode cX4_readItem 73 = .ok (.aload_n 2, 1) := by decide +kernel
theorem dX4_readItem_74 : decode cX4_readItem 74 = .ok (.aload_n 0, 1) := by decide +kernel
theorem dX4_readItem_75 : decode cX4_readItem 75 = .ok (.getfield 9, 3) := by decide +kernel
theorem dX4_readItem_78 : decode cX4_readItem 78 = .ok (.iconst 0, 1) := by decide +kernel
theorem dX4_readItem_79 : decode cX4_readItem 79 = .ok (.iaload, 1) := by decide +kernel
theorem dX4_readItem_80 : decode cX4_readItem 80 = .ok (.aload_n 0, 1) := by decide +kernel
theorem dX4_readItem_81 : decode cX4_readItem 81 = .ok (.getfield 9, 3) := by decide +kernel
theorem dX4_readItem_84 : decode cX4_readItem 84 = .ok (.iconst 1, 1) := by decide +kernel
theorem dX4_readItem_85 : decode cX4_readItem 85 = .ok (.iaload, 1) := by decide +kernel
theorem dX4_readItem_86 : decode cX4_readItem 86 = .ok (.aload_n 0, 1) := by decide +kernel
theorem dX4_readItem_87 : decode cX4_readItem 87 = .ok (.getfield 9, 3) := by decide +kernel
theorem dX4_readItem_90 : decode cX4_readItem 90 = .ok (.iconst 2, 1) := by decide +kernel
theorem dX4_readItem_91 : decode cX4_readItem 91 = .ok (.iaload, 1) := by decide +kernel
theorem dX4_readItem_92 : decode cX4_readItem 92 = .ok (.aload_n 0, 1) := by decide +kernel
theorem dX4_readItem_93 : decode cX4_readItem 93 = .ok (.getfield 9, 3) := by decide +kernel
theorem dX4_readItem_96 : decode cX4_readItem 96 = .ok (.iconst 3, 1) := by decide +kernel
theorem dX4_readItem_97 : decode cX4_readItem 97 = .ok (.iaload, 1) := by decide +kernel
theorem dX4_readItem_98 : decode cX4_readItem 98 = .ok (.invokevirtual 42, 3) := by decide +kernel
theorem dX4_readItem_101 : decode cX4_readItem 101 = .ok (.ifCond .eq 7, 3) := by decide +kernel
theorem dX4_readItem_104 : decode cX4_readItem 104 = .ok (.iconst 1, 1) := by decide +kernel
theorem dX4_readItem_105 : decode cX4_readItem 105 = .ok (.goto 4, 3) := by decide +kernel
theorem dX4_readItem_108 : decode cX4_readItem 108 = .ok (.iconst 0, 1) := by decide +kernel
theorem dX4_readItem_109 : decode cX4_readItem 109 = .ok (.ireturn, 1) := by decide +kernel
theorem dX4_readItem_110 : decode cX4_readItem 110 = .ok (.aload_n 0, 1) := by decide +kernel
theorem dX4_readItem_111 : decode cX4_readItem 111 = .ok (.aload_n 1, 1) := by decide +kernel
theorem dX4_readItem_112 : decode cX4_readItem 112 = .ok (.iconst 2, 1) := by decide +kernel
theorem dX4_readItem_113 : decode cX4_readItem 113 = .ok (.invokevirtual 38, 3) := by decide +kernel
theorem dX4_readItem_116 : decode cX4_readItem 116 = .ok (.ifCond .eq 26, 3) := by decide +kernel
theorem dX4_readItem_119 : decode cX4_readItem 119 = .ok (.aload_n 2, 1) := by decide +kernel
theorem dX4_readItem_120 : decode cX4_readItem 120 = .ok (.aload_n 0, 1) := by decide +kernel
theorem dX4_readItem_121 : decode cX4_readItem 121 = .ok (.getfield 9, 3) := by decide +kernel
theorem dX4_readItem_124 : decode cX4_readItem 124 = .ok (.iconst 0, 1) := by decide +kernel
theorem dX4_readItem_125 : decode cX4_readItem 125 = .ok (.iaload, 1) := by decide +kernel
theorem dX4_readItem_126 : decode cX4_readItem 126 = .ok (.aload_n 0, 1) := by decide +kernel
theorem dX4_readItem_127 : decode cX4_readItem 127 = .ok (.getfield 9, 3) := by decide +kernel
theorem dX4_readItem_130 : decode cX4_readItem 130 = .ok (.iconst 1, 1) := by decide +kernel
theorem dX4_readItem_131 : decode cX4_readItem 131 = .ok (.iaload, 1) := by decide +kernel
theorem dX4_readItem_132 : decode cX4_readItem 132 = .ok (.invokevirtual 46, 3) := by decide +kernel
theorem dX4_readItem_135 : decode cX4_readItem 135 = .ok (.ifCond .eq 7, 3) := by decide +kernel
theorem dX4_readItem_138 : decode cX4_readItem 138 = .ok (.iconst 1, 1) := by decide +kernel
theorem dX4_readItem_139 : decode cX4_readItem 139 = .ok (.goto 4, 3) := by decide +kernel
theorem dX4_readItem_142 : decode cX4_readItem 142 = .ok (.iconst 0, 1) := by decide +kernel
theorem dX4_readItem_143 : decode cX4_readItem 143 = .ok (.ireturn, 1) := by decide +kernel
theorem dX4_readItem_144 : decode cX4_readItem 144 = .ok (.aload_n 0, 1) := by decide +kernel
theorem dX4_readItem_145 : decode cX4_readItem 145 = .ok (.aload_n 1, 1) := by decide +kernel
theorem dX4_readItem_146 : decode cX4_readItem 146 = .ok (.iconst 2, 1) := by decide +kernel
theorem dX4_readItem_147 : decode cX4_readItem 147 = .ok (.invokevirtual 38, 3) := by decide +kernel
theorem dX4_readItem_150 : decode cX4_readItem 150 = .ok (.ifCond .eq 26, 3) := by decide +kernel
theorem dX4_readItem_153 : decode cX4_readItem 153 = .ok (.aload_n 2, 1) := by decide +kernel
theorem dX4_readItem_154 : decode cX4_readItem 154 = .ok (.aload_n 0, 1) := by decide +kernel
theorem dX4_readItem_155 : decode cX4_readItem 155 = .ok (.getfield 9, 3) := by decide +kernel
theorem dX4_readItem_158 : decode cX4_readItem 158 = .ok (.iconst 0, 1) := by decide +kernel
theorem dX4_readItem_159 : decode cX4_readItem 159 = .ok (.iaload, 1) := by decide +kernel
theorem dX4_readItem_160 : decode cX4_readItem 160 = .ok (.aload_n 0, 1) := by decide +kernel
theorem dX4_readItem_161 : decode cX4_readItem 161 = .ok (.getfield 9, 3) := by decide +kernel
theorem dX4_readItem_164 : decode cX4_readItem 164 = .ok (.iconst 1, 1) := by decide +kernel
theorem dX4_readItem_165 : decode cX4_readItem 165 = .ok (.iaload, 1) := by decide +kernel
theorem dX4_readItem_166 : decode cX4_readItem 166 = .ok (.invokevirtual 50, 3) := by decide +kernel
theorem dX4_readItem_169 : decode cX4_readItem 169 = .ok (.ifCond .eq 7, 3) := by decide +kernel
theorem dX4_readItem_172 : decode cX4_readItem 172 = .ok (.iconst 1, 1) := by decide +kernel
theorem dX4_readItem_173 : decode cX4_readItem 173 = .ok (.goto 4, 3) := by decide +kernel
theorem dX4_readItem_176 : decode cX4_readItem 176 = .ok (.iconst 0, 1) := by decide +kernel
theorem dX4_readItem_177 : decode cX4_readItem 177 = .ok (.ireturn, 1) := by decide +kernel
theorem dX4_readItem_178 : decode cX4_readItem 178 = .ok (.aload_n 0, 1) := by decide +kernel
theorem dX4_readItem_179 : decode cX4_readItem 179 = .ok (.aload_n 1, 1) := by decide +kernel
theorem dX4_readItem_180 : decode cX4_readItem 180 = .ok (.iconst 1, 1) := by decide +kernel
theorem dX4_readItem_181 : decode cX4_readItem 181 = .ok (.invokevirtual 38, 3) := by decide +kernel
theorem dX4_readItem_184 : decode cX4_readItem 184 = .ok (.ifCond .eq 20, 3) := by decide +kernel
theorem dX4_readItem_187 : decode cX4_readItem 187 = .ok (.aload_n 2, 1) := by decide +kernel
theorem dX4_readItem_188 : decode cX4_readItem 188 = .ok (.aload_n 0, 1) := by decide +kernel
theorem dX4_readItem_189 : decode cX4_readItem 189 = .ok (.getfield 9, 3) := by decide +kernel
theorem dX4_readItem_192 : decode cX4_readItem 192 = .ok (.iconst 0, 1) := by decide +kernel
theorem dX4_readItem_193 : decode cX4_readItem 193 = .ok (.iaload, 1) := by decide +kernel
theorem dX4_readItem_194 : decode cX4_readItem 194 = .ok (.invokevirtual 53, 3) := by decide +kernel
theorem dX4_readItem_197 : decode cX4_readItem 197 = .ok (.ifCond .eq 7, 3) := by decide +kernel
theorem dX4_readItem_200 : decode cX4_readItem 200 = .ok (.iconst 1, 1) := by decide +kernel
theorem dX4_readItem_201 : decode cX4_readItem 201 = .ok (.goto 4, 3) := by decide +kernel
theorem dX4_readItem_204 : decode cX4_readItem 204 = .ok (.iconst 0, 1) := by decide +kernel
theorem dX4_readItem_205 : decode cX4_readItem 205 = .ok (.ireturn, 1) := by decide +kernel
theorem dX4_readItem_206 : decode cX4_readItem 206 = .ok (.iconst 0, 1) := by decide +kernel
theorem dX4_readItem_207 : decode cX4_readItem 207 = .ok (.ireturn, 1) := by decide +kernel
theorem dX4_readNumbers_0 : decode cX4_readNumbers 0 = .ok (.iconst 0, 1) := by decide +kernel
theorem dX4_readNumbers_1 : decode cX4_readNumbers 1 = .ok (.istore_n 3, 1) := by decide +kernel
theorem dX4_readNumbers_2 : decode cX4_readNumbers 2 = .ok (.iload_n 3, 1) := by decide +kernel
theorem dX4_readNumbers_3 : decode cX4_readNumbers 3 = .ok (.iload_n 2, 1) := by decide +kernel
theorem dX4_readNumbers_4 : decode cX4_readNumbers 4 = .ok (.if_icmp .ge 81, 3) := by decide +kernel
theorem dX4_readNumbers_7 : decode cX4_readNumbers 7 = .ok (.iload_n 3, 1) := by decide +kernel
theorem dX4_readNumbers_8 : decode cX4_readNumbers 8 = .ok (.aload_n 0, 1) := by decide +kernel
theorem dX4_readNumbers_9 : decode cX4_readNumbers 9 = .ok (.getfield 9, 3) := by decide +kernel
theorem dX4_readNumbers_12 : decode cX4_readNumbers 12 = .ok (.arraylength, 1) := by decide +kernel
theorem dX4_readNumbers_13 : decode cX4_readNumbers 13 = .ok (.if_icmp .ge 72, 3) := by decide +kernel
theorem dX4_readNumbers_16 : decode cX4_readNumbers 16 = .ok (.aload_n 0, 1) := by decide +kernel
theorem dX4_readNumbers_17 : decode cX4_readNumbers 17 = .ok (.aload_n 1, 1) := by decide +kernel
theorem dX4_readNumbers_18 : decode cX4_readNumbers 18 = .ok (.invokevirtual 57, 3) := by decide +kernel
theorem dX4_readNumbers_21 : decode cX4_readNumbers 21 = .ok (.istore 4, 2) := by decide +kernel
theorem dX4_readNumbers_23 : decode cX4_readNumbers 23 = .ok (.aload_n 1, 1) := by decide +kernel
theorem dX4_readNumbers_24 : decode cX4_readNumbers 24 = .ok (.aload_n 0, 1) := by decide +kernel
theorem dX4_readNumbers_25 : decode cX4_readNumbers 25 = .ok (.getfield 20, 3) := by decide +kernel
theorem dX4_readNumbers_28 : decode cX4_readNumbers 28 = .ok (.invokevirtual 34, 3) := by decide +kernel
theorem dX4_readNumbers_31 : decode cX4_readNumbers 31 = .ok (.istore 5, 2) := by decide +kernel
theorem dX4_readNumbers_33 : decode cX4_readNumbers 33 = .ok (.aload_n 0, 1) := by decide +kernel
theorem dX4_readNumbers_34 : decode cX4_readNumbers 34 = .ok (.dup, 1) := by decide +kernel
theorem dX4_readNumbers_35 : decode cX4_readNumbers 35 = .ok (.getfield 20, 3) := by decide +kernel
theorem dX4_readNumbers_38 : decode cX4_readNumbers 38 = .ok (.iconst 1, 1) := by decide +kernel
theorem dX4_readNumbers_39 : decode cX4_readNumbers 39 = .ok (.iadd, 1) := by decide +kernel
theorem dX4_readNumbers_40 : decode cX4_readNumbers 40 = .ok (.putfield 20, 3) := by decide +kernel
theorem dX4_readNumbers_43 : decode cX4_readNumbers 43 = .ok (.iload 4, 2) := by decide +kernel
theorem dX4_readNumbers_45 : decode cX4_readNumbers 45 = .ok (.bipush (-4), 2) := by decide +kernel
theorem dX4_readNumbers_47 : decode cX4_readNumbers 47 = .ok (.if_icmp .eq 22, 3) := by decide +kernel
theorem dX4_readNumbers_50 : decode cX4_readNumbers 50 = .ok (.iload 5, 2) := by decide +kernel
theorem dX4_readNumbers_52 : decode cX4_readNumbers 52 = .ok (.iload_n 3, 1) := by decide +kernel
theorem dX4_readNumbers_53 : decode cX4_readNumbers 53 = .ok (.iload_n 2, 1) := by decide +kernel
theorem dX4_readNumbers_54 : decode cX4_readNumbers 54 = .ok (.iconst 1, 1) := by decide +kernel
theorem dX4_readNumbers_55 : decode cX4_readNumbers 55 = .ok (.isub, 1) := by decide +kernel
theorem dX4_readNumbers_56 : decode cX4_readNumbers 56 = .ok (.if_icmp .ne 8, 3) := by decide +kernel
theorem dX4_readNumbers_59 : decode cX4_readNumbers 59 = .ok (.bipush 59, 2) := by decide +kernel
theorem dX4_readNumbers_61 : decode cX4_readNumbers 61 = .ok (.goto 5, 3) := by decide +kernel
theorem dX4_readNumbers_64 : decode cX4_readNumbers 64 = .ok (.bipush 44, 2) := by decide +kernel
theorem dX4_readNumbers_66 : decode cX4_readNumbers 66 = .ok (.if_icmp .eq 5, 3) := by decide +kernel
theorem dX4_readNumbers_69 : decode cX4_readNumbers 69 = .ok (.iconst 0, 1) := by decide +kernel
theorem dX4_readNumbers_70 : decode cX4_readNumbers 70 = .ok (.ireturn, 1) := by decide +kernel
theorem dX4_readNumbers_71 : decode cX4_readNumbers 71 = .ok (.aload_n 0, 1) := by decide +kernel
theorem dX4_readNumbers_72 : decode cX4_readNumbers 72 = .ok (.getfield 9, 3) := by decide +kernel
theorem dX4_readNumbers_75 : decode cX4_readNumbers 75 = .ok (.iload_n 3, 1) := by decide +kernel
theorem dX4_readNumbers_76 : decode cX4_readNumbers 76 = .ok (.iload 4, 2) := by decide +kernel
theorem dX4_readNumbers_78 : decode cX4_readNumbers 78 = .ok (.iastore, 1) := by decide +kernel
theorem dX4_readNumbers_79 : decode cX4_readNumbers 79 = .ok (.iinc 3 1, 3) := by decide +kernel
theorem dX4_readNumbers_82 : decode cX4_readNumbers 82 = .ok (.goto (-80), 3) := by decide +kernel
theorem dX4_readNumbers_85 : decode cX4_readNumbers 85 = .ok (.iconst 1, 1) := by decide +kernel
theorem dX4_readNumbers_86 : decode cX4_readNumbers 86 = .ok (.ireturn, 1) := by decide +kernel
theorem dX4_readNumber_0 : decode cX4_readNumber 0 = .ok (.aload_n 1, 1) := by decide +kernel
theorem dX4_readNumber_1 : decode cX4_readNumber 1 = .ok (.aload_n 0, 1) := by decide +kernel
theorem dX4_readNumber_2 : decode cX4_readNumber 2 = .ok (.getfield 20, 3) := by decide +kernel
theorem dX4_readNumber_5 : decode cX4_readNumber 5 = .ok (.invokevirtual 34, 3) := by decide +kernel
theorem dX4_readNumber_8 : decode cX4_readNumber 8 = .ok (.istore_n 2, 1) := by decide +kernel
theorem dX4_readNumber_9 : decode cX4_readNumber 9 = .ok (.iload_n 2, 1) := by decide +kernel
theorem dX4_readNumber_10 : decode cX4_readNumber 10 = .ok (.invokestatic 61, 3) := by decide +kernel
theorem dX4_readNumber_13 : decode cX4_readNumber 13 = .ok (.ifCond .ne 6, 3) := by decide +kernel
theorem dX4_readNumber_16 : decode cX4_readNumber 16 = .ok (.bipush (-4), 2) := by decide +kernel
theorem dX4_readNumber_18 : decode cX4_readNumber 18 = .ok (.ireturn, 1) := by decide +kernel
theorem dX4_readNumber_19 : decode cX4_readNumber 19 = .ok (.aload_n 0, 1) := by decide +kernel
theorem dX4_readNumber_20 : decode cX4_readNumber 20 = .ok (.dup, 1) := by decide +kernel
theorem dX4_readNumber_21 : decode cX4_readNumber 21 = .ok (.getfield 20, 3) := by decide +kernel
theorem dX4_readNumber_24 : decode cX4_readNumber 24 = .ok (.iconst 1, 1) := by decide +kernel
theorem dX4_readNumber_25 : decode cX4_readNumber 25 = .ok (.iadd, 1) := by decide +kernel
theorem dX4_readNumber_26 : decode cX4_readNumber 26 = .ok (.putfield 20, 3) := by decide +kernel
theorem dX4_readNumber_29 : decode cX4_readNumber 29 = .ok (.aload_n 1, 1) := by decide +kernel
theorem dX4_readNumber_30 : decode cX4_readNumber 30 = .ok (.aload_n 0, 1) := by decide +kernel
theorem dX4_readNumber_31 : decode cX4_readNumber 31 = .ok (.getfield 20, 3) := by decide +kernel
theorem dX4_readNumber_34 : decode cX4_readNumber 34 = .ok (.invokevirtual 34, 3) := by decide +kernel
theorem dX4_readNumber_37 : decode cX4_readNumber 37 = .ok (.istore_n 3, 1) := by decide +kernel
theorem dX4_readNumber_38 : decode cX4_readNumber 38 = .ok (.iload_n 3, 1) := by decide +kernel
theorem dX4_readNumber_39 : decode cX4_readNumber 39 = .ok (.invokestatic 61, 3) := by decide +kernel
theorem dX4_readNumber_42 : decode cX4_readNumber 42 = .ok (.ifCond .ne 8, 3) := by decide +kernel
theorem dX4_readNumber_45 : decode cX4_readNumber 45 = .ok (.iload_n 2, 1) := by decide +kernel
theorem dX4_readNumber_46 : decode cX4_readNumber 46 = .ok (.bipush 48, 2) := by decide +kernel
theorem dX4_readNumber_48 : decode cX4_readNumber 48 = .ok (.isub, 1) := by decide +kernel
theorem dX4_readNumber_49 : decode cX4_readNumber 49 = .ok (.ireturn, 1) := by decide +kernel
theorem dX4_readNumber_50 : decode cX4_readNumber 50 = .ok (.aload_n 0, 1) := by decide +kernel
theorem dX4_readNumber_51 : decode cX4_readNumber 51 = .ok (.dup, 1) := by decide +kernel
theorem dX4_readNumber_52 : decode cX4_readNumber 52 = .ok (.getfield 20, 3) := by decide +kernel
theorem dX4_readNumber_55 : decode cX4_readNumber 55 = .ok (.iconst 1, 1) := by decide +kernel
theorem dX4_readNumber_56 : decode cX4_readNumber 56 = .ok (.iadd, 1) := by decide +kernel
theorem dX4_readNumber_57 : decode cX4_readNumber 57 = .ok (.putfield 20, 3) := by decide +kernel
theorem dX4_readNumber_60 : decode cX4_readNumber 60 = .ok (.bipush 10, 2) := by decide +kernel
theorem dX4_readNumber_62 : decode cX4_readNumber 62 = .ok (.iload_n 2, 1) := by decide +kernel
theorem dX4_readNumber_63 : decode cX4_readNumber 63 = .ok (.bipush 48, 2) := by decide +kernel
theorem dX4_readNumber_65 : decode cX4_readNumber 65 = .ok (.isub, 1) := by decide +kernel
theorem dX4_readNumber_66 : decode cX4_readNumber 66 = .ok (.imul, 1) := by decide +kernel
theorem dX4_readNumber_67 : decode cX4_readNumber 67 = .ok (.iload_n 3, 1) := by decide +kernel
theorem dX4_readNumber_68 : decode cX4_readNumber 68 = .ok (.iadd, 1) := by decide +kernel
theorem dX4_readNumber_69 : decode cX4_readNumber 69 = .ok (.bipush 48, 2) := by decide +kernel
theorem dX4_readNumber_71 : decode cX4_readNumber 71 = .ok (.isub, 1) := by decide +kernel
theorem dX4_readNumber_72 : decode cX4_readNumber 72 = .ok (.ireturn, 1) := by decide +kernel
theorem dX4_isFigure_0 : decode cX4_isFigure 0 = .ok (.iload_n 0, 1) := by decide +kernel
theorem dX4_isFigure_1 : decode cX4_isFigure 1 = .ok (.bipush 48, 2) := by decide +kernel
theorem dX4_isFigure_3 : decode cX4_isFigure 3 = .ok (.bipush 57, 2) := by decide +kernel
theorem dX4_isFigure_5 : decode cX4_isFigure 5 = .ok (.invokestatic 64, 3) := by decide +kernel
theorem dX4_isFigure_8 : decode cX4_isFigure 8 = .ok (.ireturn, 1) := by decide +kernel
theorem dX5_init_0 : decode cX5_init 0 = .ok (.aload_n 0, 1) := by decide +kernel
theorem dX5_init_1 : decode cX5_init 1 = .ok (.invokespecial 1, 3) := by decide +kernel
theorem dX5_init_4 : decode cX5_init 4 = .ok (.aload_n 0, 1) := by decide +kernel
theorem dX5_init_5 : decode cX5_init 5 = .ok (.iload_n 1, 1) := by decide +kernel
theorem dX5_init_6 : decode cX5_init 6 = .ok (.iconst 1, 1) := by decide +kernel
theorem dX5_init_7 : decode cX5_init 7 = .ok (.invokestatic 7, 3) := by decide +kernel
theorem dX5_init_10 : decode cX5_init 10 = .ok (.putfield 13, 3) := by decide +kernel
theorem dX5_init_13 : decode cX5_init 13 = .ok (.aload_n 0, 1) := by decide +kernel
theorem dX5_init_14 : decode cX5_init 14 = .ok (.aload_n 0, 1) := by decide +kernel
theorem dX5_init_15 : decode cX5_init 15 = .ok (.getfield 13, 3) := by decide +kernel
theorem dX5_init_18 : decode cX5_init 18 = .ok (.bipush 42, 2) := by decide +kernel
theorem dX5_init_20 : decode cX5_init 20 = .ok (.imul, 1) := by decide +kernel
theorem dX5_init_21 : decode cX5_init 21 = .ok (.newarray .int, 2) := by decide +kernel
theorem dX5_init_23 : decode cX5_init 23 = .ok (.putfield 21, 3) := by decide +kernel
theorem dX5_init_26 : decode cX5_init 26 = .ok (.return_, 1) := by decide +kernel
theorem dX5_size_0 : decode cX5_size 0 = .ok (.aload_n 0, 1) := by decide +kernel
theorem dX5_size_1 : decode cX5_size 1 = .ok (.getfield 25, 3) := by decide +kernel
theorem dX5_size_4 : decode cX5_size 4 = .ok (.ireturn, 1) := by decide +kernel
theorem dX5_isFull_0 : decode cX5_isFull 0 = .ok (.aload_n 0, 1) := by decide +kernel
theorem dX5_isFull_1 : decode cX5_isFull 1 = .ok (.getfield 25, 3) := by decide +kernel
theorem dX5_isFull_4 : decode cX5_isFull 4 = .ok (.aload_n 0, 1) := by decide +kernel
theorem dX5_isFull_5 : decode cX5_isFull 5 = .ok (.getfield 13, 3) := by decide +kernel
theorem dX5_isFull_8 : decode cX5_isFull 8 = .ok (.if_icmp .lt 7, 3) := by decide +kernel
theorem dX5_isFull_11 : decode cX5_isFull 11 = .ok (.iconst 1, 1) := by decide +kernel
theorem dX5_isFull_12 : decode cX5_isFull 12 = .ok (.goto 4, 3) := by decide +kernel
theorem dX5_isFull_15 : decode cX5_isFull 15 = .ok (.iconst 0, 1) := by decide +kernel
theorem dX5_isFull_16 : decode cX5_isFull 16 = .ok (.ireturn, 1) := by decide +kernel
theorem dX5_clear_0 : decode cX5_clear 0 = .ok (.aload_n 0, 1) := by decide +kernel
theorem dX5_clear_1 : decode cX5_clear 1 = .ok (.iconst 0, 1) := by decide +kernel
theorem dX5_clear_2 : decode cX5_clear 2 = .ok (.putfield 25, 3) := by decide +kernel
theorem dX5_clear_5 : decode cX5_clear 5 = .ok (.return_, 1) := by decide +kernel
theorem dX5_push_0 : decode cX5_push 0 = .ok (.aload_n 0, 1) := by decide +kernel
theorem dX5_push_1 : decode cX5_push 1 = .ok (.invokevirtual 28, 3) := by decide +kernel
theorem dX5_push_4 : decode cX5_push 4 = .ok (.ifCond .eq 7, 3) := by decide +kernel
theorem dX5_push_7 : decode cX5_push 7 = .ok (.aload_n 0, 1) := by decide +kernel
theorem dX5_push_8 : decode cX5_push 8 = .ok (.invokevirtual 32, 3) := by decide +kernel
theorem dX5_push_11 : decode cX5_push 11 = .ok (.aload_n 1, 1) := by decide +kernel
theorem dX5_push_12 : decode cX5_push 12 = .ok (.aload_n 0, 1) := by decide +kernel
theorem dX5_push_13 : decode cX5_push 13 = .ok (.getfield 21, 3) := by decide +kernel
theorem dX5_push_16 : decode cX5_push 16 = .ok (.aload_n 0, 1) := by decide +kernel
theorem dX5_push_17 : decode cX5_push 17 = .ok (.getfield 25, 3) := by decide +kernel
theorem dX5_push_20 : decode cX5_push 20 = .ok (.bipush 42, 2) := by decide +kernel
theorem dX5_push_22 : decode cX5_push 22 = .ok (.imul, 1) := by decide +kernel
theorem dX5_push_23 : decode cX5_push 23 = .ok (.invokevirtual 35, 3) := by decide +kernel
theorem dX5_push_26 : decode cX5_push 26 = .ok (.aload_n 0, 1) := by decide +kernel
theorem dX5_push_27 : decode cX5_push 27 = .ok (.dup, 1) := by decide +kernel
theorem dX5_push_28 : decode cX5_push 28 = .ok (.getfield 25, 3) := by decide +kernel
theorem dX5_push_31 : decode cX5_push 31 = .ok (.iconst 1, 1) := by decide +kernel
theorem dX5_push_32 : decode cX5_push 32 = .ok (.iadd, 1) := by decide +kernel
theorem dX5_push_33 : decode cX5_push 33 = .ok (.putfield 25, 3) := by decide +kernel
theorem dX5_push_36 : decode cX5_push 36 = .ok (.return_, 1) := by decide +kernel
theorem dX5_popInto_0 : decode cX5_popInto 0 = .ok (.aload_n 0, 1) := by decide +kernel
theorem dX5_popInto_1 : decode cX5_popInto 1 = .ok (.getfield 25, 3) := by decide +kernel
theorem dX5_popInto_4 : decode cX5_popInto 4 = .ok (.ifCond .le 28, 3) := by decide +kernel
theorem dX5_popInto_7 : decode cX5_popInto 7 = .ok (.aload_n 0, 1) := by decide +kernel
theorem dX5_popInto_8 : decode cX5_popInto 8 = .ok (.dup, 1) := by decide +kernel
theorem dX5_popInto_9 : decode cX5_popInto 9 = .ok (.getfield 25, 3) := by decide +kernel
theorem dX5_popInto_12 : decode cX5_popInto 12 = .ok (.iconst 1, 1) := by decide +kernel
theorem dX5_popInto_13 : decode cX5_popInto 13 = .ok (.isub, 1) := by decide +kernel
theorem dX5_popInto_14 : decode cX5_popInto 14 = .ok (.putfield 25, 3) := by decide +kernel
theorem dX5_popInto_17 : decode cX5_popInto 17 = .ok (.aload_n 1, 1) := by decide +kernel
theorem dX5_popInto_18 : decode cX5_popInto 18 = .ok (.aload_n 0, 1) := by decide +kernel
theorem dX5_popInto_19 : decode cX5_popInto 19 = .ok (.getfield 21, 3) := by decide +kernel
theorem dX5_popInto_22 : decode cX5_popInto 22 = .ok (.aload_n 0, 1) := by decide +kernel
theorem dX5_popInto_23 : decode cX5_popInto 23 = .ok (.getfield 25, 3) := by decide +kernel
theorem dX5_popInto_26 : decode cX5_popInto 26 = .ok (.bipush 42, 2) := by decide +kernel
theorem dX5_popInto_28 : decode cX5_popInto 28 = .ok (.imul, 1) := by decide +kernel
theorem dX5_popInto_29 : decode cX5_popInto 29 = .ok (.invokevirtual 39, 3) := by decide +kernel
theorem dX5_popInto_32 : decode cX5_popInto 32 = .ok (.return_, 1) := by decide +kernel
theorem dX5_dropOldest_0 : decode cX5_dropOldest 0 = .ok (.aload_n 0, 1) := by decide +kernel
theorem dX5_dropOldest_1 : decode cX5_dropOldest 1 = .ok (.getfield 21, 3) := by decide +kernel
theorem dX5_dropOldest_4 : decode cX5_dropOldest 4 = .ok (.arraylength, 1) := by decide +kernel
theorem dX5_dropOldest_5 : decode cX5_dropOldest 5 = .ok (.bipush 42, 2) := by decide +kernel
theorem dX5_dropOldest_7 : decode cX5_dropOldest 7 = .ok (.isub, 1) := by decide +kernel
theorem dX5_dropOldest_8 : decode cX5_dropOldest 8 = .ok (.istore_n 1, 1) := by decide +kernel
theorem dX5_dropOldest_9 : decode cX5_dropOldest 9 = .ok (.iload_n 1, 1) := by decide +kernel
theorem dX5_dropOldest_10 : decode cX5_dropOldest 10 = .ok (.ifCond .lt 18, 3) := by decide +kernel
theorem dX5_dropOldest_13 : decode cX5_dropOldest 13 = .ok (.aload_n 0, 1) := by decide +kernel
theorem dX5_dropOldest_14 : decode cX5_dropOldest 14 = .ok (.getfield 21, 3) := by decide +kernel
theorem dX5_dropOldest_17 : decode cX5_dropOldest 17 = .ok (.bipush 42, 2) := by decide +kernel
theorem dX5_dropOldest_19 : decode cX5_dropOldest 19 = .ok (.aload_n 0, 1) := by decide +kernel
theorem dX5_dropOldest_20 : decode cX5_dropOldest 20 = .ok (.getfield 21, 3) := by decide +kernel
theorem dX5_dropOldest_23 : decode cX5_dropOldest 23 = .ok (.iconst 0, 1) := by decide +kernel
theorem dX5_dropOldest_24 : decode cX5_dropOldest 24 = .ok (.iload_n 1, 1) := by decide +kernel
theorem dX5_dropOldest_25 : decode cX5_dropOldest 25 = .ok (.invokestatic 42, 3) := by decide +kernel
theorem dX5_dropOldest_28 : decode cX5_dropOldest 28 = .ok (.aload_n 0, 1) := by decide +kernel
theorem dX5_dropOldest_29 : decode cX5_dropOldest 29 = .ok (.dup, 1) := by decide +kernel
theorem dX5_dropOldest_30 : decode cX5_dropOldest 30 = .ok (.getfield 25, 3) := by decide +kernel
theorem dX5_dropOldest_33 : decode cX5_dropOldest 33 = .ok (.iconst 1, 1) := by decide +kernel
theorem dX5_dropOldest_34 : decode cX5_dropOldest 34 = .ok (.isub, 1) := by decide +kernel
theorem dX5_dropOldest_35 : decode cX5_dropOldest 35 = .ok (.putfield 25, 3) := by decide +kernel
theorem dX5_dropOldest_38 : decode cX5_dropOldest 38 = .ok (.return_, 1) := by decide +kernel
theorem dX6_of_0 : decode cX6_of 0 = .ok (.iload_n 0, 1) := by decide +kernel
theorem dX6_of_1 : decode cX6_of 1 = .ok (.bipush 6, 2) := by decide +kernel
theorem dX6_of_3 : decode cX6_of 3 = .ok (.iload_n 1, 1) := by decide +kernel
theorem dX6_of_4 : decode cX6_of 4 = .ok (.imul, 1) := by decide +kernel
theorem dX6_of_5 : decode cX6_of 5 = .ok (.iadd, 1) := by decide +kernel
theorem dX6_of_6 : decode cX6_of 6 = .ok (.bipush 24, 2) := by decide +kernel
theorem dX6_of_8 : decode cX6_of 8 = .ok (.iload_n 2, 1) := by decide +kernel
theorem dX6_of_9 : decode cX6_of 9 = .ok (.imul, 1) := by decide +kernel
theorem dX6_of_10 : decode cX6_of 10 = .ok (.iadd, 1) := by decide +kernel
theorem dX6_of_11 : decode cX6_of 11 = .ok (.ireturn, 1) := by decide +kernel
theorem dX6_seeds_0 : decode cX6_seeds 0 = .ok (.iload_n 0, 1) := by decide +kernel
theorem dX6_seeds_1 : decode cX6_seeds 1 = .ok (.bipush 6, 2) := by decide +kernel
theorem dX6_seeds_3 : decode cX6_seeds 3 = .ok (.irem, 1) := by decide +kernel
theorem dX6_seeds_4 : decode cX6_seeds 4 = .ok (.ireturn, 1) := by decide +kernel
theorem dX6_cuts_0 : decode cX6_cuts 0 = .ok (.iload_n 0, 1) := by decide +kernel
theorem dX6_cuts_1 : decode cX6_cuts 1 = .ok (.bipush 6, 2) := by decide +kernel
theorem dX6_cuts_3 : decode cX6_cuts 3 = .ok (.idiv, 1) := by decide +kernel
theorem dX6_cuts_4 : decode cX6_cuts 4 = .ok (.iconst 4, 1) := by decide +kernel
theorem dX6_cuts_5 : decode cX6_cuts 5 = .ok (.irem, 1) := by decide +kernel
theorem dX6_cuts_6 : decode cX6_cuts 6 = .ok (.ireturn, 1) := by decide +kernel
theorem dX6_filling_0 : decode cX6_filling 0 = .ok (.iload_n 0, 1) := by decide +kernel
theorem dX6_filling_1 : decode cX6_filling 1 = .ok (.bipush 24, 2) := by decide +kernel
theorem dX6_filling_3 : decode cX6_filling 3 = .ok (.idiv, 1) := by decide +kernel
theorem dX6_filling_4 : decode cX6_filling 4 = .ok (.ireturn, 1) := by decide +kernel
theorem dX6_flour_0 : decode cX6_flour 0 = .ok (.iconst 1, 1) := by decide +kernel
theorem dX6_flour_1 : decode cX6_flour 1 = .ok (.iload_n 0, 1) := by decide +kernel
theorem dX6_flour_2 : decode cX6_flour 2 = .ok (.invokestatic 7, 3) := by decide +kernel
theorem dX6_flour_5 : decode cX6_flour 5 = .ok (.iadd, 1) := by decide +kernel
theorem dX6_flour_6 : decode cX6_flour 6 = .ok (.iconst 2, 1) := by decide +kernel
theorem dX6_flour_7 : decode cX6_flour 7 = .ok (.iload_n 0, 1) := by decide +kernel
theorem dX6_flour_8 : decode cX6_flour 8 = .ok (.invokestatic 13, 3) := by decide +kernel
theorem dX6_flour_11 : decode cX6_flour 11 = .ok (.imul, 1) := by decide +kernel
theorem dX6_flour_12 : decode cX6_flour 12 = .ok (.iadd, 1) := by decide +kernel
theorem dX6_flour_13 : decode cX6_flour 13 = .ok (.iconst 3, 1) := by decide +kernel
theorem dX6_flour_14 : decode cX6_flour 14 = .ok (.iload_n 0, 1) := by decide +kernel
theorem dX6_flour_15 : decode cX6_flour 15 = .ok (.invokestatic 16, 3) := by decide +kernel
theorem dX6_flour_18 : decode cX6_flour 18 = .ok (.imul, 1) := by decide +kernel
theorem dX6_flour_19 : decode cX6_flour 19 = .ok (.iadd, 1) := by decide +kernel
theorem dX6_flour_20 : decode cX6_flour 20 = .ok (.ireturn, 1) := by decide +kernel
theorem dX6_bitten_0 : decode cX6_bitten 0 = .ok (.iload_n 0, 1) := by decide +kernel
theorem dX6_bitten_1 : decode cX6_bitten 1 = .ok (.invokestatic 16, 3) := by decide +kernel
theorem dX6_bitten_4 : decode cX6_bitten 4 = .ok (.ifCond .le 16, 3) := by decide +kernel
theorem dX6_bitten_7 : decode cX6_bitten 7 = .ok (.iload_n 0, 1) := by decide +kernel
theorem dX6_bitten_8 : decode cX6_bitten 8 = .ok (.invokestatic 7, 3) := by decide +kernel
theorem dX6_bitten_11 : decode cX6_bitten 11 = .ok (.iload_n 0, 1) := by decide +kernel
theorem dX6_bitten_12 : decode cX6_bitten 12 = .ok (.invokestatic 13, 3) := by decide +kernel
theorem dX6_bitten_15 : decode cX6_bitten 15 = .ok (.iconst 0, 1) := by decide +kernel
theorem dX6_bitten_16 : decode cX6_bitten 16 = .ok (.invokestatic 19, 3) := by decide +kernel
theorem dX6_bitten_19 : decode cX6_bitten 19 = .ok (.ireturn, 1) := by decide +kernel
theorem dX6_bitten_20 : decode cX6_bitten 20 = .ok (.iload_n 0, 1) := by decide +kernel
theorem dX6_bitten_21 : decode cX6_bitten 21 = .ok (.invokestatic 7, 3) := by decide +kernel
theorem dX6_bitten_24 : decode cX6_bitten 24 = .ok (.ifCond .le 15, 3) := by decide +kernel
theorem dX6_bitten_27 : decode cX6_bitten 27 = .ok (.iconst 0, 1) := by decide +kernel
theorem dX6_bitten_28 : decode cX6_bitten 28 = .ok (.iload_n 0, 1) := by decide +kernel
theorem dX6_bitten_29 : decode cX6_bitten 29 = .ok (.invokestatic 13, 3) := by decide +kernel
theorem dX6_bitten_32 : decode cX6_bitten 32 = .ok (.iconst 0, 1) := by decide +kernel
theorem dX6_bitten_33 : decode cX6_bitten 33 = .ok (.invokestatic 19, 3) := by decide +kernel
theorem dX6_bitten_36 : decode cX6_bitten 36 = .ok (.goto 4, 3) := by decide +kernel
theorem dX6_bitten_39 : decode cX6_bitten 39 = .ok (.iconst 0, 1) := by decide +kernel
theorem dX6_bitten_40 : decode cX6_bitten 40 = .ok (.ireturn, 1) := by decide +kernel
theorem dX7_init_0 : decode cX7_init 0 = .ok (.aload_n 0, 1) := by decide +kernel
theorem dX7_init_1 : decode cX7_init 1 = .ok (.invokespecial 1, 3) := by decide +kernel
theorem dX7_init_4 : decode cX7_init 4 = .ok (.aload_n 0, 1) := by decide +kernel
theorem dX7_init_5 : decode cX7_init 5 = .ok (.sipush 300, 3) := by decide +kernel
theorem dX7_init_8 : decode cX7_init 8 = .ok (.newarray .byte, 2) := by decide +kernel
theorem dX7_init_10 : decode cX7_init 10 = .ok (.putfield 9, 3) := by decide +kernel
theorem dX7_init_13 : decode cX7_init 13 = .ok (.return_, 1) := by decide +kernel
theorem dX7_length_0 : decode cX7_length 0 = .ok (.aload_n 0, 1) := by decide +kernel
theorem dX7_length_1 : decode cX7_length 1 = .ok (.getfield 13, 3) := by decide +kernel
theorem dX7_length_4 : decode cX7_length 4 = .ok (.ireturn, 1) := by decide +kernel
theorem dX7_clear_0 : decode cX7_clear 0 = .ok (.aload_n 0, 1) := by decide +kernel
theorem dX7_clear_1 : decode cX7_clear 1 = .ok (.iconst 0, 1) := by decide +kernel
theorem dX7_clear_2 : decode cX7_clear 2 = .ok (.putfield 13, 3) := by decide +kernel
theorem dX7_clear_5 : decode cX7_clear 5 = .ok (.return_, 1) := by decide +kernel
theorem dX7_hasRoom_0 : decode cX7_hasRoom 0 = .ok (.aload_n 0, 1) := by decide +kernel
theorem dX7_hasRoom_1 : decode cX7_hasRoom 1 = .ok (.getfield 13, 3) := by decide +kernel
theorem dX7_hasRoom_4 : decode cX7_hasRoom 4 = .ok (.iload_n 1, 1) := by decide +kernel
theorem dX7_hasRoom_5 : decode cX7_hasRoom 5 = .ok (.iadd, 1) := by decide +kernel
theorem dX7_hasRoom_6 : decode cX7_hasRoom 6 = .ok (.sipush 300, 3) := by decide +kernel
theorem dX7_hasRoom_9 : decode cX7_hasRoom 9 = .ok (.if_icmp .gt 7, 3) := by decide +kernel
theorem dX7_hasRoom_12 : decode cX7_hasRoom 12 = .ok (.iconst 1, 1) := by decide +kernel
theorem dX7_hasRoom_13 : decode cX7_hasRoom 13 = .ok (.goto 4, 3) := by decide +kernel
theorem dX7_hasRoom_16 : decode cX7_hasRoom 16 = .ok (.iconst 0, 1) := by decide +kernel
theorem dX7_hasRoom_17 : decode cX7_hasRoom 17 = .ok (.ireturn, 1) := by decide +kernel
theorem dX7_append_0 : decode cX7_append 0 = .ok (.iload_n 1, 1) := by decide +kernel
theorem dX7_append_1 : decode cX7_append 1 = .ok (.iconst 1, 1) := by decide +kernel
theorem dX7_append_2 : decode cX7_append 2 = .ok (.isub, 1) := by decide +kernel
theorem dX7_append_3 : decode cX7_append 3 = .ok (.istore 4, 2) := by decide +kernel
theorem dX7_append_5 : decode cX7_append 5 = .ok (.iload 4, 2) := by decide +kernel
theorem dX7_append_7 : decode cX7_append 7 = .ok (.ifCond .lt 56, 3) := by decide +kernel
theorem dX7_append_10 : decode cX7_append 10 = .ok (.aload_n 0, 1) := by decide +kernel
theorem dX7_append_11 : decode cX7_append 11 = .ok (.getfield 13, 3) := by decide +kernel
theorem dX7_append_14 : decode cX7_append 14 = .ok (.ifCond .lt 43, 3) := by decide +kernel
theorem dX7_append_17 : decode cX7_append 17 = .ok (.aload_n 0, 1) := by decide +kernel
theorem dX7_append_18 : decode cX7_append 18 = .ok (.getfield 13, 3) := by decide +kernel
theorem dX7_append_21 : decode cX7_append 21 = .ok (.aload_n 0, 1) := by decide +kernel
theorem dX7_append_22 : decode cX7_append 22 = .ok (.getfield 9, 3) := by decide +kernel
theorem dX7_append_25 : decode cX7_append 25 = .ok (.arraylength, 1) := by decide +kernel
theorem dX7_append_26 : decode cX7_append 26 = .ok (.if_icmp .ge 31, 3) := by decide +kernel
theorem dX7_append_29 : decode cX7_append 29 = .ok (.aload_n 0, 1) := by decide +kernel
theorem dX7_append_30 : decode cX7_append 30 = .ok (.getfield 9, 3) := by decide +kernel
theorem dX7_append_33 : decode cX7_append 33 = .ok (.aload_n 0, 1) := by decide +kernel
theorem dX7_append_34 : decode cX7_append 34 = .ok (.getfield 13, 3) := by decide +kernel
theorem dX7_append_37 : decode cX7_append 37 = .ok (.lload_n 2, 1) := by decide +kernel
theorem dX7_append_38 : decode cX7_append 38 = .ok (.bipush 8, 2) := by decide +kernel
theorem dX7_append_40 : decode cX7_append 40 = .ok (.iload 4, 2) := by decide +kernel
theorem dX7_append_42 : decode cX7_append 42 = .ok (.imul, 1) := by decide +kernel
theorem dX7_append_43 : decode cX7_append 43 = .ok (.lushr, 1) := by decide +kernel
theorem dX7_append_44 : decode cX7_append 44 = .ok (.l2i, 1) := by decide +kernel
theorem dX7_append_45 : decode cX7_append 45 = .ok (.i2b, 1) := by decide +kernel
theorem dX7_append_46 : decode cX7_append 46 = .ok (.bastore, 1) := by decide +kernel
theorem dX7_append_47 : decode cX7_append 47 = .ok (.aload_n 0, 1) := by decide +kernel
theorem dX7_append_48 : decode cX7_append 48 = .ok (.dup, 1) := by decide +kernel
theorem dX7_append_49 : decode cX7_append 49 = .ok (.getfield 13, 3) := by decide +kernel
theorem dX7_append_52 : decode cX7_append 52 = .ok (.iconst 1, 1) := by decide +kernel
theorem dX7_append_53 : decode cX7_append 53 = .ok (.iadd, 1) := by decide +kernel
theorem dX7_append_54 : decode cX7_append 54 = .ok (.putfield 13, 3) := by decide +kernel
theorem dX7_append_57 : decode cX7_append 57 = .ok (.iinc 4 (-1), 3) := by decide +kernel
theorem dX7_append_60 : decode cX7_append 60 = .ok (.goto (-55), 3) := by decide +kernel
theorem dX7_append_63 : decode cX7_append 63 = .ok (.return_, 1) := by decide +kernel
theorem dX7_byteAt_0 : decode cX7_byteAt 0 = .ok (.iload_n 1, 1) := by decide +kernel
theorem dX7_byteAt_1 : decode cX7_byteAt 1 = .ok (.ifCond .lt 33, 3) := by decide +kernel
theorem dX7_byteAt_4 : decode cX7_byteAt 4 = .ok (.iload_n 1, 1) := by decide +kernel
theorem dX7_byteAt_5 : decode cX7_byteAt 5 = .ok (.aload_n 0, 1) := by decide +kernel
theorem dX7_byteAt_6 : decode cX7_byteAt 6 = .ok (.getfield 13, 3) := by decide +kernel
theorem dX7_byteAt_9 : decode cX7_byteAt 9 = .ok (.if_icmp .ge 25, 3) := by decide +kernel
theorem dX7_byteAt_12 : decode cX7_byteAt 12 = .ok (.iload_n 1, 1) := by decide +kernel
theorem dX7_byteAt_13 : decode cX7_byteAt 13 = .ok (.aload_n 0, 1) := by decide +kernel
theorem dX7_byteAt_14 : decode cX7_byteAt 14 = .ok (.getfield 9, 3) := by decide +kernel
theorem dX7_byteAt_17 : decode cX7_byteAt 17 = .ok (.arraylength, 1) := by decide +kernel
theorem dX7_byteAt_18 : decode cX7_byteAt 18 = .ok (.if_icmp .ge 16, 3) := by decide +kernel
theorem dX7_byteAt_21 : decode cX7_byteAt 21 = .ok (.aload_n 0, 1) := by decide +kernel
theorem dX7_byteAt_22 : decode cX7_byteAt 22 = .ok (.getfield 9, 3) := by decide +kernel
theorem dX7_byteAt_25 : decode cX7_byteAt 25 = .ok (.iload_n 1, 1) := by decide +kernel
theorem dX7_byteAt_26 : decode cX7_byteAt 26 = .ok (.baload, 1) := by decide +kernel
theorem dX7_byteAt_27 : decode cX7_byteAt 27 = .ok (.sipush 255, 3) := by decide +kernel
theorem dX7_byteAt_30 : decode cX7_byteAt 30 = .ok (.iand, 1) := by decide +kernel
theorem dX7_byteAt_31 : decode cX7_byteAt 31 = .ok (.goto 4, 3) := by decide +kernel
theorem dX7_byteAt_34 : decode cX7_byteAt 34 = .ok (.iconst (-1), 1) := by decide +kernel
theorem dX7_byteAt_35 : decode cX7_byteAt 35 = .ok (.ireturn, 1) := by decide +kernel
theorem dX8_init_0 : decode cX8_init 0 = .ok (.aload_n 0, 1) := by decide +kernel
theorem dX8_init_1 : decode cX8_init 1 = .ok (.invokespecial 3, 3) := by decide +kernel
theorem dX8_init_4 : decode cX8_init 4 = .ok (.aload_n 0, 1) := by decide +kernel
theorem dX8_init_5 : decode cX8_init 5 = .ok (.bipush 8, 2) := by decide +kernel
theorem dX8_init_7 : decode cX8_init 7 = .ok (.newarray .int, 2) := by decide +kernel
theorem dX8_init_9 : decode cX8_init 9 = .ok (.putfield 11, 3) := by decide +kernel
theorem dX8_init_12 : decode cX8_init 12 = .ok (.aload_n 0, 1) := by decide +kernel
theorem dX8_init_13 : decode cX8_init 13 = .ok (.bipush 8, 2) := by decide +kernel
theorem dX8_init_15 : decode cX8_init 15 = .ok (.newarray .int, 2) := by decide +kernel
theorem dX8_init_17 : decode cX8_init 17 = .ok (.putfield 15, 3) := by decide +kernel
theorem dX8_init_20 : decode cX8_init 20 = .ok (.aload_n 0, 1) := by decide +kernel
theorem dX8_init_21 : decode cX8_init 21 = .ok (.iconst 5, 1) := by decide +kernel
theorem dX8_init_22 : decode cX8_init 22 = .ok (.newarray .int, 2) := by decide +kernel
theorem dX8_init_24 : decode cX8_init 24 = .ok (.putfield 18, 3) := by decide +kernel
theorem dX8_init_27 : decode cX8_init 27 = .ok (.aload_n 0, 1) := by decide +kernel
theorem dX8_init_28 : decode cX8_init 28 = .ok (.iconst 5, 1) := by decide +kernel
theorem dX8_init_29 : decode cX8_init 29 = .ok (.newarray .int, 2) := by decide +kernel
theorem dX8_init_31 : decode cX8_init 31 = .ok (.putfield 21, 3) := by decide +kernel
theorem dX8_init_34 : decode cX8_init 34 = .ok (.aload_n 0, 1) := by decide +kernel
theorem dX8_init_35 : decode cX8_init 35 = .ok (.iconst 5, 1) := by decide +kernel
theorem dX8_init_36 : decode cX8_init 36 = .ok (.newarray .int, 2) := by decide +kernel
theorem dX8_init_38 : decode cX8_init 38 = .ok (.putfield 24, 3) := by decide +kernel
theorem dX8_init_41 : decode cX8_init 41 = .ok (.aload_n 0, 1) := by decide +kernel
theorem dX8_init_42 : decode cX8_init 42 = .ok (.iconst 2, 1) := by decide +kernel
theorem dX8_init_43 : decode cX8_init 43 = .ok (.putfield 27, 3) := by decide +kernel
theorem dX8_init_46 : decode cX8_init 46 = .ok (.aload_n 0, 1) := by decide +kernel
theorem dX8_init_47 : decode cX8_init 47 = .ok (.iconst 3, 1) := by decide +kernel
theorem dX8_init_48 : decode cX8_init 48 = .ok (.putfield 31, 3) := by decide +kernel
theorem dX8_init_51 : decode cX8_init 51 = .ok (.return_, 1) := by decide +kernel
theorem dX8_clear_0 : decode cX8_clear 0 = .ok (.aload_n 0, 1) := by decide +kernel
theorem dX8_clear_1 : decode cX8_clear 1 = .ok (.iconst 0, 1) := by decide +kernel
theorem dX8_clear_2 : decode cX8_clear 2 = .ok (.putfield 34, 3) := by decide +kernel
theorem dX8_clear_5 : decode cX8_clear 5 = .ok (.aload_n 0, 1) := by decide +kernel
theorem dX8_clear_6 : decode cX8_clear 6 = .ok (.iconst 0, 1) := by decide +kernel
theorem dX8_clear_7 : decode cX8_clear 7 = .ok (.putfield 37, 3) := by decide +kernel
theorem dX8_clear_10 : decode cX8_clear 10 = .ok (.aload_n 0, 1) := by decide +kernel
theorem dX8_clear_11 : decode cX8_clear 11 = .ok (.iconst 0, 1) := by decide +kernel
theorem dX8_clear_12 : decode cX8_clear 12 = .ok (.putfield 40, 3) := by decide +kernel
theorem dX8_clear_15 : decode cX8_clear 15 = .ok (.aload_n 0, 1) := by decide +kernel
theorem dX8_clear_16 : decode cX8_clear 16 = .ok (.iconst 2, 1) := by decide +kernel
theorem dX8_clear_17 : decode cX8_clear 17 = .ok (.putfield 27, 3) := by decide +kernel
theorem dX8_clear_20 : decode cX8_clear 20 = .ok (.aload_n 0, 1) := by decide +kernel
theorem dX8_clear_21 : decode cX8_clear 21 = .ok (.iconst 3, 1) := by decide +kernel
theorem dX8_clear_22 : decode cX8_clear 22 = .ok (.putfield 31, 3) := by decide +kernel
theorem dX8_clear_25 : decode cX8_clear 25 = .ok (.return_, 1) := by decide +kernel
theorem dX8_addWord_0 : decode cX8_addWord 0 = .ok (.iload_n 1, 1) := by decide +kernel
theorem dX8_addWord_1 : decode cX8_addWord 1 = .ok (.iconst 0, 1) := by decide +kernel
theorem dX8_addWord_2 : decode cX8_addWord 2 = .ok (.iconst 5, 1) := by decide +kernel
theorem dX8_addWord_3 : decode cX8_addWord 3 = .ok (.invokestatic 43, 3) := by decide +kernel
theorem dX8_addWord_6 : decode cX8_addWord 6 = .ok (.ifCond .eq 21, 3) := by decide +kernel
theorem dX8_addWord_9 : decode cX8_addWord 9 = .ok (.iload_n 2, 1) := by decide +kernel
theorem dX8_addWord_10 : decode cX8_addWord 10 = .ok (.iconst 0, 1) := by decide +kernel
theorem dX8_addWord_11 : decode cX8_addWord 11 = .ok (.iconst 3, 1) := by decide +kernel
theorem dX8_addWord_12 : decode cX8_addWord 12 = .ok (.invokestatic 43, 3) := by decide +kernel
theorem dX8_addWord_15 : decode cX8_addWord 15 = .ok (.ifCond .eq 12, 3) := by decide +kernel
theorem dX8_addWord_18 : decode cX8_addWord 18 = .ok (.iload_n 3, 1) := by decide +kernel
theorem dX8_addWord_19 : decode cX8_addWord 19 = .ok (.iconst 0, 1) := by decide +kernel
theorem dX8_addWord_20 : decode cX8_addWord 20 = .ok (.iconst 2, 1) := by decide +kernel
theorem dX8_addWord_21 : decode cX8_addWord 21 = .ok (.invokestatic 43, 3) := by decide +kernel
theorem dX8_addWord_24 : decode cX8_addWord 24 = .ok (.ifCond .ne 5, 3) := by decide +kernel
theorem dX8_addWord_27 : decode cX8_addWord 27 = .ok (.iconst 0, 1) := by decide +kernel
theorem dX8_addWord_28 : decode cX8_addWord 28 = .ok (.ireturn, 1) := by decide +kernel
theorem dX8_addWord_29 : decode cX8_addWord 29 = .ok (.iload_n 1, 1) := by decide +kernel
theorem dX8_addWord_30 : decode cX8_addWord 30 = .ok (.iload_n 2, 1) := by decide +kernel
theorem dX8_addWord_31 : decode cX8_addWord 31 = .ok (.iload_n 3, 1) := by decide +kernel
theorem dX8_addWord_32 : decode cX8_addWord 32 = .ok (.invokestatic 47, 3) := by decide +kernel
theorem dX8_addWord_35 : decode cX8_addWord 35 = .ok (.istore 5, 2) := by decide +kernel
theorem dX8_addWord_37 : decode cX8_addWord 37 = .ok (.iload 4, 2) := by decide +kernel
theorem dX8_addWord_39 : decode cX8_addWord 39 = .ok (.iconst 0, 1) := by decide +kernel
theorem dX8_addWord_40 : decode cX8_addWord 40 = .ok (.bipush 99, 2) := by decide +kernel
theorem dX8_addWord_42 : decode cX8_addWord 42 = .ok (.invokestatic 43, 3) := by decide +kernel
theorem dX8_addWord_45 : decode cX8_addWord 45 = .ok (.ifCond .eq 27, 3) := by decide +kernel
theorem dX8_addWord_48 : decode cX8_addWord 48 = .ok (.aload_n 0, 1) := by decide +kernel
theorem dX8_addWord_49 : decode cX8_addWord 49 = .ok (.getfield 34, 3) := by decide +kernel
theorem dX8_addWord_52 : decode cX8_addWord 52 = .ok (.iconst 0, 1) := by decide +kernel
theorem dX8_addWord_53 : decode cX8_addWord 53 = .ok (.bipush 7, 2) := by decide +kernel
theorem dX8_addWord_55 : decode cX8_addWord 55 = .ok (.invokestatic 43, 3) := by decide +kernel
theorem dX8_addWord_58 : decode cX8_addWord 58 = .ok (.ifCond .eq 14, 3) := by decide +kernel
theorem dX8_addWord_61 : decode cX8_addWord 61 = .ok (.aload_n 0, 1) := by decide +kernel
theorem dX8_addWord_62 : decode cX8_addWord 62 = .ok (.iload 5, 2) := by decide +kernel
theorem dX8_addWord_64 : decode cX8_addWord 64 = .ok (.invokevirtual 53, 3) := by decide +kernel
theorem dX8_addWord_67 : decode cX8_addWord 67 = .ok (.bipush (-4), 2) := by decide +kernel
theorem dX8_addWord_69 : decode cX8_addWord 69 = .ok (.if_icmp .eq 5, 3) := by decide +kernel
theorem dX8_addWord_72 : decode cX8_addWord 72 = .ok (.iconst 0, 1) := by decide +kernel
theorem dX8_addWord_73 : decode cX8_addWord 73 = .ok (.ireturn, 1) := by decide +kernel
theorem dX8_addWord_74 : decode cX8_addWord 74 = .ok (.aload_n 0, 1) := by decide +kernel
theorem dX8_addWord_75 : decode cX8_addWord 75 = .ok (.getfield 11, 3) := by decide +kernel
theorem dX8_addWord_78 : decode cX8_addWord 78 = .ok (.aload_n 0, 1) := by decide +kernel
theorem dX8_addWord_79 : decode cX8_addWord 79 = .ok (.getfield 34, 3) := by decide +kernel
theorem dX8_addWord_82 : decode cX8_addWord 82 = .ok (.iload 5, 2) := by decide +kernel
theorem dX8_addWord_84 : decode cX8_addWord 84 = .ok (.iastore, 1) := by decide +kernel
theorem dX8_addWord_85 : decode cX8_addWord 85 = .ok (.aload_n 0, 1) := by decide +kernel
theorem dX8_addWord_86 : decode cX8_addWord 86 = .ok (.getfield 15, 3) := by decide +kernel
theorem dX8_addWord_89 : decode cX8_addWord 89 = .ok (.aload_n 0, 1) := by decide +kernel
theorem dX8_addWord_90 : decode cX8_addWord 90 = .ok (.getfield 34, 3) := by decide +kernel
theorem dX8_addWord_93 : decode cX8_addWord 93 = .ok (.iload 4, 2) := by decide +kernel
theorem dX8_addWord_95 : decode cX8_addWord 95 = .ok (.iastore, 1) := by decide +kernel
theorem dX8_addWord_96 : decode cX8_addWord 96 = .ok (.aload_n 0, 1) := by decide +kernel
theorem dX8_addWord_97 : decode cX8_addWord 97 = .ok (.dup, 1) := by decide +kernel
theorem dX8_addWord_98 : decode cX8_addWord 98 = .ok (.getfield 34, 3) := by decide +kernel
theorem dX8_addWord_101 : decode cX8_addWord 101 = .ok (.iconst 1, 1) := by decide +kernel
theorem dX8_addWord_102 : decode cX8_addWord 102 = .ok (.iadd, 1) := by decide +kernel
theorem dX8_addWord_103 : decode cX8_addWord 103 = .ok (.putfield 34, 3) := by decide +kernel
theorem dX8_addWord_106 : decode cX8_addWord 106 = .ok (.iconst 1, 1) := by decide +kernel
theorem dX8_addWord_107 : decode cX8_addWord 107 = .ok (.ireturn, 1) := by decide +kernel
theorem dX8_setLosses_0 : decode cX8_setLosses 0 = .ok (.iload_n 1, 1) := by decide +kernel
theorem dX8_setLosses_1 : decode cX8_setLosses 1 = .ok (.iconst 1, 1) := by decide +kernel
theorem dX8_setLosses_2 : decode cX8_setLosses 2 = .ok (.bipush 9, 2) := by decide +kernel
theorem dX8_setLosses_4 : decode cX8_setLosses 4 = .ok (.invokestatic 43, 3) := by decide +kernel
theorem dX8_setLosses_7 : decode cX8_setLosses 7 = .ok (.ifCond .eq 13, 3) := by decide +kernel
theorem dX8_setLosses_10 : decode cX8_setLosses 10 = .ok (.iload_n 2, 1) := by decide +kernel
theorem dX8_setLosses_11 : decode cX8_setLosses 11 = .ok (.iconst 1, 1) := by decide +kernel
theorem dX8_setLosses_12 : decode cX8_setLosses 12 = .ok (.bipush 9, 2) := by decide +kernel
theorem dX8_setLosses_14 : decode cX8_setLosses 14 = .ok (.invokestatic 43, 3) := by decide +kernel
theorem dX8_setLosses_17 : decode cX8_setLosses 17 = .ok (.ifCond .ne 5, 3) := by decide +kernel
theorem dX8_setLosses_20 : decode cX8_setLosses 20 = .ok (.iconst 0, 1) := by decide +kernel
theorem dX8_setLosses_21 : decode cX8_setLosses 21 = .ok (.ireturn, 1) := by decide +kernel
theorem dX8_setLosses_22 : decode cX8_setLosses 22 = .ok (.aload_n 0, 1) := by decide +kernel
theorem dX8_setLosses_23 : decode cX8_setLosses 23 = .ok (.iload_n 1, 1) := by decide +kernel
theorem dX8_setLosses_24 : decode cX8_setLosses 24 = .ok (.putfield 27, 3) := by decide +kernel
theorem dX8_setLosses_27 : decode cX8_setLosses 27 = .ok (.aload_n 0, 1) := by decide +kernel
theorem dX8_setLosses_28 : decode cX8_setLosses 28 = .ok (.iload_n 2, 1) := by decide +kernel
theorem dX8_setLosses_29 : decode cX8_setLosses 29 = .ok (.putfield 31, 3) := by decide +kernel
theorem dX8_setLosses_32 : decode cX8_setLosses 32 = .ok (.iconst 1, 1) := by decide +kernel
theorem dX8_setLosses_33 : decode cX8_setLosses 33 = .ok (.ireturn, 1) := by decide +kernel
theorem dX8_addCarrier_0 : decode cX8_addCarrier 0 = .ok (.iload_n 1, 1) := by decide +kernel
theorem dX8_addCarrier_1 : decode cX8_addCarrier 1 = .ok (.iconst 0, 1) := by decide +kernel
theorem dX8_addCarrier_2 : decode cX8_addCarrier 2 = .ok (.bipush 9, 2) := by decide +kernel
theorem dX8_addCarrier_4 : decode cX8_addCarrier 4 = .ok (.invokestatic 43, 3) := by decide +kernel
theorem dX8_addCarrier_7 : decode cX8_addCarrier 7 = .ok (.ifCond .eq 25, 3) := by decide +kernel
theorem dX8_addCarrier_10 : decode cX8_addCarrier 10 = .ok (.iload_n 2, 1) := by decide +kernel
theorem dX8_addCarrier_11 : decode cX8_addCarrier 11 = .ok (.iconst 1, 1) := by decide +kernel
theorem dX8_addCarrier_12 : decode cX8_addCarrier 12 = .ok (.bipush 6, 2) := by decide +kernel
theorem dX8_addCarrier_14 : decode cX8_addCarrier 14 = .ok (.invokestatic 43, 3) := by decide +kernel
theorem dX8_addCarrier_17 : decode cX8_addCarrier 17 = .ok (.ifCond .eq 15, 3) := by decide +kernel
theorem dX8_addCarrier_20 : decode cX8_addCarrier 20 = .ok (.aload_n 0, 1) := by decide +kernel
theorem dX8_addCarrier_21 : decode cX8_addCarrier 21 = .ok (.getfield 37, 3) := by decide +kernel
theorem dX8_addCarrier_24 : decode cX8_addCarrier 24 = .ok (.iconst 0, 1) := by decide +kernel
theorem dX8_addCarrier_25 : decode cX8_addCarrier 25 = .ok (.iconst 4, 1) := by decide +kernel
theorem dX8_addCarrier_26 : decode cX8_addCarrier 26 = .ok (.invokestatic 43, 3) := by decide +kernel
theorem dX8_addCarrier_29 : decode cX8_addCarrier 29 = .ok (.ifCond .ne 5, 3) := by decide +kernel
theorem dX8_addCarrier_32 : decode cX8_addCarrier 32 = .ok (.iconst 0, 1) := by decide +kernel
theorem dX8_addCarrier_33 : decode cX8_addCarrier 33 = .ok (.ireturn, 1) := by decide +kernel
theorem dX8_addCarrier_34 : decode cX8_addCarrier 34 = .ok (.aload_n 0, 1) := by decide +kernel
theorem dX8_addCarrier_35 : decode cX8_addCarrier 35 = .ok (.getfield 18, 3) := by decide +kernel
theorem dX8_addCarrier_38 : decode cX8_addCarrier 38 = .ok (.aload_n 0, 1) := by decide +kernel
theorem dX8_addCarrier_39 : decode cX8_addCarrier 39 = .ok (.getfield 37, 3) := by decide +kernel
theorem dX8_addCarrier_42 : decode cX8_addCarrier 42 = .ok (.iload_n 1, 1) := by decide +kernel
theorem dX8_addCarrier_43 : decode cX8_addCarrier 43 = .ok (.iastore, 1) := by decide +kernel
theorem dX8_addCarrier_44 : decode cX8_addCarrier 44 = .ok (.aload_n 0, 1) := by decide +kernel
theorem dX8_addCarrier_45 : decode cX8_addCarrier 45 = .ok (.getfield 21, 3) := by decide +kernel
theorem dX8_addCarrier_48 : decode cX8_addCarrier 48 = .ok (.aload_n 0, 1) := by decide +kernel
theorem dX8_addCarrier_49 : decode cX8_addCarrier 49 = .ok (.getfield 37, 3) := by decide +kernel
theorem dX8_addCarrier_52 : decode cX8_addCarrier 52 = .ok (.iload_n 2, 1) := by decide +kernel
theorem dX8_addCarrier_53 : decode cX8_addCarrier 53 = .ok (.iastore, 1) := by decide +kernel
theorem dX8_addCarrier_54 : decode cX8_addCarrier 54 = .ok (.aload_n 0, 1) := by decide +kernel
theorem dX8_addCarrier_55 : decode cX8_addCarrier 55 = .ok (.dup, 1) := by decide +kernel
theorem dX8_addCarrier_56 : decode cX8_addCarrier 56 = .ok (.getfield 37, 3) := by decide +kernel
theorem dX8_addCarrier_59 : decode cX8_addCarrier 59 = .ok (.iconst 1, 1) := by decide +kernel
theorem dX8_addCarrier_60 : decode cX8_addCarrier 60 = .ok (.iadd, 1) := by decide +kernel
theorem dX8_addCarrier_61 : decode cX8_addCarrier 61 = .ok (.putfield 37, 3) := by decide +kernel
theorem dX8_addCarrier_64 : decode cX8_addCarrier 64 = .ok (.iconst 1, 1) := by decide +kernel
theorem dX8_addCarrier_65 : decode cX8_addCarrier 65 = .ok (.ireturn, 1) := by decide +kernel
theorem dX8_addBaker_0 : decode cX8_addBaker 0 = .ok (.iload_n 1, 1) := by decide +kernel
theorem dX8_addBaker_1 : decode cX8_addBaker 1 = .ok (.iconst 0, 1) := by decide +kernel
theorem dX8_addBaker_2 : decode cX8_addBaker 2 = .ok (.bipush 63, 2) := by decide +kernel
theorem dX8_addBaker_4 : decode cX8_addBaker 4 = .ok (.invokestatic 43, 3) := by decide +kernel
theorem dX8_addBaker_7 : decode cX8_addBaker 7 = .ok (.ifCond .eq 15, 3) := by decide +kernel
theorem dX8_addBaker_10 : decode cX8_addBaker 10 = .ok (.aload_n 0, 1) := by decide +kernel
theorem dX8_addBaker_11 : decode cX8_addBaker 11 = .ok (.getfield 40, 3) := by decide +kernel
theorem dX8_addBaker_14 : decode cX8_addBaker 14 = .ok (.iconst 0, 1) := by decide +kernel
theorem dX8_addBaker_15 : decode cX8_addBaker 15 = .ok (.iconst 4, 1) := by decide +kernel
theorem dX8_addBaker_16 : decode cX8_addBaker 16 = .ok (.invokestatic 43, 3) := by decide +kernel
theorem dX8_addBaker_19 : decode cX8_addBaker 19 = .ok (.ifCond .ne 5, 3) := by decide +kernel
theorem dX8_addBaker_22 : decode cX8_addBaker 22 = .ok (.iconst 0, 1) := by decide +kernel
theorem dX8_addBaker_23 : decode cX8_addBaker 23 = .ok (.ireturn, 1) := by decide +kernel
theorem dX8_addBaker_24 : decode cX8_addBaker 24 = .ok (.aload_n 0, 1) := by decide +kernel
theorem dX8_addBaker_25 : decode cX8_addBaker 25 = .ok (.getfield 24, 3) := by decide +kernel
theorem dX8_addBaker_28 : decode cX8_addBaker 28 = .ok (.aload_n 0, 1) := by decide +kernel
theorem dX8_addBaker_29 : decode cX8_addBaker 29 = .ok (.getfield 40, 3) := by decide +kernel
theorem dX8_addBaker_32 : decode cX8_addBaker 32 = .ok (.iload_n 1, 1) := by decide +kernel
theorem dX8_addBaker_33 : decode cX8_addBaker 33 = .ok (.iastore, 1) := by decide +kernel
theorem dX8_addBaker_34 : decode cX8_addBaker 34 = .ok (.aload_n 0, 1) := by decide +kernel
theorem dX8_addBaker_35 : decode cX8_addBaker 35 = .ok (.dup, 1) := by decide +kernel
theorem dX8_addBaker_36 : decode cX8_addBaker 36 = .ok (.getfield 40, 3) := by decide +kernel
theorem dX8_addBaker_39 : decode cX8_addBaker 39 = .ok (.iconst 1, 1) := by decide +kernel
theorem dX8_addBaker_40 : decode cX8_addBaker 40 = .ok (.iadd, 1) := by decide +kernel
theorem dX8_addBaker_41 : decode cX8_addBaker 41 = .ok (.putfield 40, 3) := by decide +kernel
theorem dX8_addBaker_44 : decode cX8_addBaker 44 = .ok (.iconst 1, 1) := by decide +kernel
theorem dX8_addBaker_45 : decode cX8_addBaker 45 = .ok (.ireturn, 1) := by decide +kernel
theorem dX8_words_0 : decode cX8_words 0 = .ok (.aload_n 0, 1) := by decide +kernel
theorem dX8_words_1 : decode cX8_words 1 = .ok (.getfield 34, 3) := by decide +kernel
theorem dX8_words_4 : decode cX8_words 4 = .ok (.ireturn, 1) := by decide +kernel
theorem dX8_carriers_0 : decode cX8_carriers 0 = .ok (.aload_n 0, 1) := by decide +kernel
theorem dX8_carriers_1 : decode cX8_carriers 1 = .ok (.getfield 37, 3) := by decide +kernel
theorem dX8_carriers_4 : decode cX8_carriers 4 = .ok (.ireturn, 1) := by decide +kernel
theorem dX8_bakers_0 : decode cX8_bakers 0 = .ok (.aload_n 0, 1) := by decide +kernel
theorem dX8_bakers_1 : decode cX8_bakers 1 = .ok (.getfield 40, 3) := by decide +kernel
theorem dX8_bakers_4 : decode cX8_bakers 4 = .ok (.ireturn, 1) := by decide +kernel
theorem dX8_signOf_0 : decode cX8_signOf 0 = .ok (.aload_n 0, 1) := by decide +kernel
theorem dX8_signOf_1 : decode cX8_signOf 1 = .ok (.getfield 11, 3) := by decide +kernel
theorem dX8_signOf_4 : decode cX8_signOf 4 = .ok (.iload_n 1, 1) := by decide +kernel
theorem dX8_signOf_5 : decode cX8_signOf 5 = .ok (.invokestatic 57, 3) := by decide +kernel
theorem dX8_signOf_8 : decode cX8_signOf 8 = .ok (.ireturn, 1) := by decide +kernel
theorem dX8_worthOf_0 : decode cX8_worthOf 0 = .ok (.aload_n 0, 1) := by decide +kernel
theorem dX8_worthOf_1 : decode cX8_worthOf 1 = .ok (.getfield 15, 3) := by decide +kernel
theorem dX8_worthOf_4 : decode cX8_worthOf 4 = .ok (.iload_n 1, 1) := by decide +kernel
theorem dX8_worthOf_5 : decode cX8_worthOf 5 = .ok (.invokestatic 57, 3) := by decide +kernel
theorem dX8_worthOf_8 : decode cX8_worthOf 8 = .ok (.ireturn, 1) := by decide +kernel
theorem dX8_milesOf_0 : decode cX8_milesOf 0 = .ok (.aload_n 0, 1) := by decide +kernel
theorem dX8_milesOf_1 : decode cX8_milesOf 1 = .ok (.getfield 21, 3) := by decide +kernel
theorem dX8_milesOf_4 : decode cX8_milesOf 4 = .ok (.iload_n 1, 1) := by decide +kernel
theorem dX8_milesOf_5 : decode cX8_milesOf 5 = .ok (.invokestatic 57, 3) := by decide +kernel
theorem dX8_milesOf_8 : decode cX8_milesOf 8 = .ok (.ireturn, 1) := by decide +kernel
theorem dX8_readAs_0 : decode cX8_readAs 0 = .ok (.iconst 0, 1) := by decide +kernel
theorem dX8_readAs_1 : decode cX8_readAs 1 = .ok (.istore_n 2, 1) := by decide +kernel
theorem dX8_readAs_2 : decode cX8_readAs 2 = .ok (.iload_n 2, 1) := by decide +kernel
theorem dX8_readAs_3 : decode cX8_readAs 3 = .ok (.aload_n 0, 1) := by decide +kernel
theorem dX8_readAs_4 : decode cX8_readAs 4 = .ok (.getfield 34, 3) := by decide +kernel
theorem dX8_readAs_7 : decode cX8_readAs 7 = .ok (.if_icmp .ge 20, 3) := by decide +kernel
theorem dX8_readAs_10 : decode cX8_readAs 10 = .ok (.aload_n 0, 1) := by decide +kernel
theorem dX8_readAs_11 : decode cX8_readAs 11 = .ok (.iload_n 2, 1) := by decide +kernel
theorem dX8_readAs_12 : decode cX8_readAs 12 = .ok (.invokevirtual 61, 3) := by decide +kernel
theorem dX8_readAs_15 : decode cX8_readAs 15 = .ok (.iload_n 1, 1) := by decide +kernel
theorem dX8_readAs_16 : decode cX8_readAs 16 = .ok (.if_icmp .ne 5, 3) := by decide +kernel
theorem dX8_readAs_19 : decode cX8_readAs 19 = .ok (.iload_n 2, 1) := by decide +kernel
theorem dX8_readAs_20 : decode cX8_readAs 20 = .ok (.ireturn, 1) := by decide +kernel
theorem dX8_readAs_21 : decode cX8_readAs 21 = .ok (.iinc 2 1, 3) := by decide +kernel
theorem dX8_readAs_24 : decode cX8_readAs 24 = .ok (.goto (-22), 3) := by decide +kernel
theorem dX8_readAs_27 : decode cX8_readAs 27 = .ok (.bipush (-4), 2) := by decide +kernel
theorem dX8_readAs_29 : decode cX8_readAs 29 = .ok (.ireturn, 1) := by decide +kernel
theorem dX8_aged_0 : decode cX8_aged 0 = .ok (.aload_n 0, 1) := by decide +kernel
theorem dX8_aged_1 : decode cX8_aged 1 = .ok (.getfield 27, 3) := by decide +kernel
theorem dX8_aged_4 : decode cX8_aged 4 = .ok (.ifCond .le 17, 3) := by decide +kernel
theorem dX8_aged_7 : decode cX8_aged 7 = .ok (.iload_n 1, 1) := by decide +kernel
theorem dX8_aged_8 : decode cX8_aged 8 = .ok (.invokestatic 64, 3) := by decide +kernel
theorem dX8_aged_11 : decode cX8_aged 11 = .ok (.iload_n 2, 1) := by decide +kernel
theorem dX8_aged_12 : decode cX8_aged 12 = .ok (.aload_n 0, 1) := by decide +kernel
theorem dX8_aged_13 : decode cX8_aged 13 = .ok (.getfield 27, 3) := by decide +kernel
theorem dX8_aged_16 : decode cX8_aged 16 = .ok (.idiv, 1) := by decide +kernel
theorem dX8_aged_17 : decode cX8_aged 17 = .ok (.isub, 1) := by decide +kernel
theorem dX8_aged_18 : decode cX8_aged 18 = .ok (.goto 4, 3) := by decide +kernel
theorem dX8_aged_21 : decode cX8_aged 21 = .ok (.iconst 0, 1) := by decide +kernel
theorem dX8_aged_22 : decode cX8_aged 22 = .ok (.istore_n 3, 1) := by decide +kernel
theorem dX8_aged_23 : decode cX8_aged 23 = .ok (.aload_n 0, 1) := by decide +kernel
theorem dX8_aged_24 : decode cX8_aged 24 = .ok (.getfield 31, 3) := by decide +kernel
theorem dX8_aged_27 : decode cX8_aged 27 = .ok (.ifCond .le 17, 3) := by decide +kernel
theorem dX8_aged_30 : decode cX8_aged 30 = .ok (.iload_n 1, 1) := by decide +kernel
theorem dX8_aged_31 : decode cX8_aged 31 = .ok (.invokestatic 67, 3) := by decide +kernel
theorem dX8_aged_34 : decode cX8_aged 34 = .ok (.iload_n 2, 1) := by decide +kernel
theorem dX8_aged_35 : decode cX8_aged 35 = .ok (.aload_n 0, 1) := by decide +kernel
theorem dX8_aged_36 : decode cX8_aged 36 = .ok (.getfield 31, 3) := by decide +kernel
theorem dX8_aged_39 : decode cX8_aged 39 = .ok (.idiv, 1) := by decide +kernel
theorem dX8_aged_40 : decode cX8_aged 40 = .ok (.iadd, 1) := by decide +kernel
theorem dX8_aged_41 : decode cX8_aged 41 = .ok (.goto 4, 3) := by decide +kernel
theorem dX8_aged_44 : decode cX8_aged 44 = .ok (.iconst 0, 1) := by decide +kernel
theorem dX8_aged_45 : decode cX8_aged 45 = .ok (.istore 4, 2) := by decide +kernel
theorem dX8_aged_47 : decode cX8_aged 47 = .ok (.iload_n 3, 1) := by decide +kernel
theorem dX8_aged_48 : decode cX8_aged 48 = .ok (.iconst 0, 1) := by decide +kernel
theorem dX8_aged_49 : decode cX8_aged 49 = .ok (.invokestatic 70, 3) := by decide +kernel
theorem dX8_aged_52 : decode cX8_aged 52 = .ok (.iload 4, 2) := by decide +kernel
theorem dX8_aged_54 : decode cX8_aged 54 = .ok (.iconst 3, 1) := by decide +kernel
theorem dX8_aged_55 : decode cX8_aged 55 = .ok (.invokestatic 76, 3) := by decide +kernel
theorem dX8_aged_58 : decode cX8_aged 58 = .ok (.iload_n 1, 1) := by decide +kernel
theorem dX8_aged_59 : decode cX8_aged 59 = .ok (.invokestatic 79, 3) := by decide +kernel
theorem dX8_aged_62 : decode cX8_aged 62 = .ok (.invokestatic 47, 3) := by decide +kernel
theorem dX8_aged_65 : decode cX8_aged 65 = .ok (.ireturn, 1) := by decide +kernel
theorem dX8_turned_0 : decode cX8_turned 0 = .ok (.aload_n 0, 1) := by decide +kernel
theorem dX8_turned_1 : decode cX8_turned 1 = .ok (.iload_n 1, 1) := by decide +kernel
theorem dX8_turned_2 : decode cX8_turned 2 = .ok (.iload_n 2, 1) := by decide +kernel
theorem dX8_turned_3 : decode cX8_turned 3 = .ok (.invokevirtual 82, 3) := by decide +kernel
theorem dX8_turned_6 : decode cX8_turned 6 = .ok (.istore 4, 2) := by decide +kernel
theorem dX8_turned_8 : decode cX8_turned 8 = .ok (.iconst 0, 1) := by decide +kernel
theorem dX8_turned_9 : decode cX8_turned 9 = .ok (.istore 5, 2) := by decide +kernel
theorem dX8_turned_11 : decode cX8_turned 11 = .ok (.iload 5, 2) := by decide +kernel
theorem dX8_turned_13 : decode cX8_turned 13 = .ok (.iload_n 3, 1) := by decide +kernel
theorem dX8_turned_14 : decode cX8_turned 14 = .ok (.if_icmp .ge 16, 3) := by decide +kernel
theorem dX8_turned_17 : decode cX8_turned 17 = .ok (.iload 4, 2) := by decide +kernel
theorem dX8_turned_19 : decode cX8_turned 19 = .ok (.invokestatic 85, 3) := by decide +kernel
theorem dX8_turned_22 : decode cX8_turned 22 = .ok (.istore 4, 2) := by decide +kernel
theorem dX8_turned_24 : decode cX8_turned 24 = .ok (.iinc 5 1, 3) := by decide +kernel
theorem dX8_turned_27 : decode cX8_turned 27 = .ok (.goto (-16), 3) := by decide +kernel
theorem dX8_turned_30 : decode cX8_turned 30 = .ok (.iload 4, 2) := by decide +kernel
theorem dX8_turned_32 : decode cX8_turned 32 = .ok (.ireturn, 1) := by decide +kernel
theorem dX8_waysRead_0 : decode cX8_waysRead 0 = .ok (.aload_n 0, 1) := by decide +kernel
theorem dX8_waysRead_1 : decode cX8_waysRead 1 = .ok (.iload_n 2, 1) := by decide +kernel
theorem dX8_waysRead_2 : decode cX8_waysRead 2 = .ok (.invokevirtual 88, 3) := by decide +kernel
theorem dX8_waysRead_5 : decode cX8_waysRead 5 = .ok (.istore 4, 2) := by decide +kernel
theorem dX8_waysRead_7 : decode cX8_waysRead 7 = .ok (.aload_n 0, 1) := by decide +kernel
theorem dX8_waysRead_8 : decode cX8_waysRead 8 = .ok (.getfield 18, 3) := by decide +kernel
theorem dX8_waysRead_11 : decode cX8_waysRead 11 = .ok (.iload_n 2, 1) := by decide +kernel
theorem dX8_waysRead_12 : decode cX8_waysRead 12 = .ok (.invokestatic 57, 3) := by decide +kernel
theorem dX8_waysRead_15 : decode cX8_waysRead 15 = .ok (.istore 5, 2) := by decide +kernel
theorem dX8_waysRead_17 : decode cX8_waysRead 17 = .ok (.lconst 0, 1) := by decide +kernel
theorem dX8_waysRead_18 : decode cX8_waysRead 18 = .ok (.lstore 6, 2) := by decide +kernel
theorem dX8_waysRead_20 : decode cX8_waysRead 20 = .ok (.iconst 0, 1) := by decide +kernel
theorem dX8_waysRead_21 : decode cX8_waysRead 21 = .ok (.istore 8, 2) := by decide +kernel
theorem dX8_waysRead_23 : decode cX8_waysRead 23 = .ok (.iload 8, 2) := by decide +kernel
theorem dX8_waysRead_25 : decode cX8_waysRead 25 = .ok (.iload 4, 2) := by decide +kernel
theorem dX8_waysRead_27 : decode cX8_waysRead 27 = .ok (.if_icmp .gt 65, 3) := by decide +kernel
theorem dX8_waysRead_30 : decode cX8_waysRead 30 = .ok (.aload_n 0, 1) := by decide +kernel
theorem dX8_waysRead_31 : decode cX8_waysRead 31 = .ok (.aload_n 0, 1) := by decide +kernel
theorem dX8_waysRead_32 : decode cX8_waysRead 32 = .ok (.iload_n 1, 1) := by decide +kernel
theorem dX8_waysRead_33 : decode cX8_waysRead 33 = .ok (.invokevirtual 61, 3) := by decide +kernel
theorem dX8_waysRead_36 : decode cX8_waysRead 36 = .ok (.iload_n 3, 1) := by decide +kernel
theorem dX8_waysRead_37 : decode cX8_waysRead 37 = .ok (.iload 8, 2) := by decide +kernel
theorem dX8_waysRead_39 : decode cX8_waysRead 39 = .ok (.invokevirtual 91, 3) := by decide +kernel
theorem dX8_waysRead_42 : decode cX8_waysRead 42 = .ok (.aload_n 0, 1) := by decide +kernel
theorem dX8_waysRead_43 : decode cX8_waysRead 43 = .ok (.iload_n 1, 1) := by decide +kernel
theorem dX8_waysRead_44 : decode cX8_waysRead 44 = .ok (.invokevirtual 61, 3) := by decide +kernel
theorem dX8_waysRead_47 : decode cX8_waysRead 47 = .ok (.if_icmp .ne 39, 3) := by decide +kernel
theorem dX8_waysRead_50 : decode cX8_waysRead 50 = .ok (.lload 6, 2) := by decide +kernel
theorem dX8_waysRead_52 : decode cX8_waysRead 52 = .ok (.iload 4, 2) := by decide +kernel
theorem dX8_waysRead_54 : decode cX8_waysRead 54 = .ok (.iload 8, 2) := by decide +kernel
theorem dX8_waysRead_56 : decode cX8_waysRead 56 = .ok (.invokestatic 94, 3) := by decide +kernel
theorem dX8_waysRead_59 : decode cX8_waysRead 59 = .ok (.iload 5, 2) := by decide +kernel
theorem dX8_waysRead_61 : decode cX8_waysRead 61 = .ok (.i2l, 1) := by decide +kernel
theorem dX8_waysRead_62 : decode cX8_waysRead 62 = .ok (.iload 8, 2) := by decide +kernel
theorem dX8_waysRead_64 : decode cX8_waysRead 64 = .ok (.invokestatic 100, 3) := by decide +kernel
theorem dX8_waysRead_67 : decode cX8_waysRead 67 = .ok (.lmul, 1) := by decide +kernel
theorem dX8_waysRead_68 : decode cX8_waysRead 68 = .ok (.bipush 10, 2) := by decide +kernel
theorem dX8_waysRead_70 : decode cX8_waysRead 70 = .ok (.iload 5, 2) := by decide +kernel
theorem dX8_waysRead_72 : decode cX8_waysRead 72 = .ok (.isub, 1) := by decide +kernel
theorem dX8_waysRead_73 : decode cX8_waysRead 73 = .ok (.i2l, 1) := by decide +kernel
theorem dX8_waysRead_74 : decode cX8_waysRead 74 = .ok (.iload 4, 2) := by decide +kernel
theorem dX8_waysRead_76 : decode cX8_waysRead 76 = .ok (.iload 8, 2) := by decide +kernel
theorem dX8_waysRead_78 : decode cX8_waysRead 78 = .ok (.isub, 1) := by decide +kernel
theorem dX8_waysRead_79 : decode cX8_waysRead 79 = .ok (.invokestatic 100, 3) := by decide +kernel
theorem dX8_waysRead_82 : decode cX8_waysRead 82 = .ok (.lmul, 1) := by decide +kernel
theorem dX8_waysRead_83 : decode cX8_waysRead 83 = .ok (.ladd, 1) := by decide +kernel
theorem dX8_waysRead_84 : decode cX8_waysRead 84 = .ok (.lstore 6, 2) := by decide +kernel
theorem dX8_waysRead_86 : decode cX8_waysRead 86 = .ok (.iinc 8 1, 3) := by decide +kernel
theorem dX8_waysRead_89 : decode cX8_waysRead 89 = .ok (.goto (-66), 3) := by decide +kernel
theorem dX8_waysRead_92 : decode cX8_waysRead 92 = .ok (.lload 6, 2) := by decide +kernel
theorem dX8_waysRead_94 : decode cX8_waysRead 94 = .ok (.lreturn, 1) := by decide +kernel
theorem dX8_worthOfSet_0 : decode cX8_worthOfSet 0 = .ok (.iconst 0, 1) := by decide +kernel
theorem dX8_worthOfSet_1 : decode cX8_worthOfSet 1 = .ok (.istore_n 2, 1) := by decide +kernel
theorem dX8_worthOfSet_2 : decode cX8_worthOfSet 2 = .ok (.iconst 0, 1) := by decide +kernel
theorem dX8_worthOfSet_3 : decode cX8_worthOfSet 3 = .ok (.istore_n 3, 1) := by decide +kernel
theorem dX8_worthOfSet_4 : decode cX8_worthOfSet 4 = .ok (.iload_n 3, 1) := by decide +kernel
theorem dX8_worthOfSet_5 : decode cX8_worthOfSet 5 = .ok (.aload_n 0, 1) := by decide +kernel
theorem dX8_worthOfSet_6 : decode cX8_worthOfSet 6 = .ok (.getfield 34, 3) := by decide +kernel
theorem dX8_worthOfSet_9 : decode cX8_worthOfSet 9 = .ok (.if_icmp .ge 23, 3) := by decide +kernel
theorem dX8_worthOfSet_12 : decode cX8_worthOfSet 12 = .ok (.iload_n 2, 1) := by decide +kernel
theorem dX8_worthOfSet_13 : decode cX8_worthOfSet 13 = .ok (.iload_n 1, 1) := by decide +kernel
theorem dX8_worthOfSet_14 : decode cX8_worthOfSet 14 = .ok (.iload_n 3, 1) := by decide +kernel
theorem dX8_worthOfSet_15 : decode cX8_worthOfSet 15 = .ok (.ishr, 1) := by decide +kernel
theorem dX8_worthOfSet_16 : decode cX8_worthOfSet 16 = .ok (.iconst 1, 1) := by decide +kernel
theorem dX8_worthOfSet_17 : decode cX8_worthOfSet 17 = .ok (.iand, 1) := by decide +kernel
theorem dX8_worthOfSet_18 : decode cX8_worthOfSet 18 = .ok (.aload_n 0, 1) := by decide +kernel
theorem dX8_worthOfSet_19 : decode cX8_worthOfSet 19 = .ok (.iload_n 3, 1) := by decide +kernel
theorem dX8_worthOfSet_20 : decode cX8_worthOfSet 20 = .ok (.invokevirtual 104, 3) := by decide +kernel
theorem dX8_worthOfSet_23 : decode cX8_worthOfSet 23 = .ok (.imul, 1) := by decide +kernel
theorem dX8_worthOfSet_24 : decode cX8_worthOfSet 24 = .ok (.iadd, 1) := by decide +kernel
theorem dX8_worthOfSet_25 : decode cX8_worthOfSet 25 = .ok (.istore_n 2, 1) := by decide +kernel
theorem dX8_worthOfSet_26 : decode cX8_worthOfSet 26 = .ok (.iinc 3 1, 3) := by decide +kernel
theorem dX8_worthOfSet_29 : decode cX8_worthOfSet 29 = .ok (.goto (-25), 3) := by decide +kernel
theorem dX8_worthOfSet_32 : decode cX8_worthOfSet 32 = .ok (.iload_n 2, 1) := by decide +kernel
theorem dX8_worthOfSet_33 : decode cX8_worthOfSet 33 = .ok (.ireturn, 1) := by decide +kernel
theorem dX8_flourOfSet_0 : decode cX8_flourOfSet 0 = .ok (.iconst 0, 1) := by decide +kernel
theorem dX8_flourOfSet_1 : decode cX8_flourOfSet 1 = .ok (.istore_n 2, 1) := by decide +kernel
theorem dX8_flourOfSet_2 : decode cX8_flourOfSet 2 = .ok (.iconst 0, 1) := by decide +kernel
theorem dX8_flourOfSet_3 : decode cX8_flourOfSet 3 = .ok (.istore_n 3, 1) := by decide +kernel
theorem dX8_flourOfSet_4 : decode cX8_flourOfSet 4 = .ok (.iload_n 3, 1) := by decide +kernel
theorem dX8_flourOfSet_5 : decode cX8_flourOfSet 5 = .ok (.aload_n 0, 1) := by decide +kernel
theorem dX8_flourOfSet_6 : decode cX8_flourOfSet 6 = .ok (.getfield 34, 3) := by decide +kernel
theorem dX8_flourOfSet_9 : decode cX8_flourOfSet 9 = .ok (.if_icmp .ge 26, 3) := by decide +kernel
theorem dX8_flourOfSet_12 : decode cX8_flourOfSet 12 = .ok (.iload_n 2, 1) := by decide +kernel
theorem dX8_flourOfSet_13 : decode cX8_flourOfSet 13 = .ok (.iload_n 1, 1) := by decide +kernel
theorem dX8_flourOfSet_14 : decode cX8_flourOfSet 14 = .ok (.iload_n 3, 1) := by decide +kernel
theorem dX8_flourOfSet_15 : decode cX8_flourOfSet 15 = .ok (.ishr, 1) := by decide +kernel
theorem dX8_flourOfSet_16 : decode cX8_flourOfSet 16 = .ok (.iconst 1, 1) := by decide +kernel
theorem dX8_flourOfSet_17 : decode cX8_flourOfSet 17 = .ok (.iand, 1) := by decide +kernel
theorem dX8_flourOfSet_18 : decode cX8_flourOfSet 18 = .ok (.aload_n 0, 1) := by decide +kernel
theorem dX8_flourOfSet_19 : decode cX8_flourOfSet 19 = .ok (.iload_n 3, 1) := by decide +kernel
theorem dX8_flourOfSet_20 : decode cX8_flourOfSet 20 = .ok (.invokevirtual 61, 3) := by decide +kernel
theorem dX8_flourOfSet_23 : decode cX8_flourOfSet 23 = .ok (.invokestatic 107, 3) := by decide +kernel
theorem dX8_flourOfSet_26 : decode cX8_flourOfSet 26 = .ok (.imul, 1) := by decide +kernel
theorem dX8_flourOfSet_27 : decode cX8_flourOfSet 27 = .ok (.iadd, 1) := by decide +kernel
theorem dX8_flourOfSet_28 : decode cX8_flourOfSet 28 = .ok (.istore_n 2, 1) := by decide +kernel
theorem dX8_flourOfSet_29 : decode cX8_flourOfSet 29 = .ok (.iinc 3 1, 3) := by decide +kernel
theorem dX8_flourOfSet_32 : decode cX8_flourOfSet 32 = .ok (.goto (-28), 3) := by decide +kernel
theorem dX8_flourOfSet_35 : decode cX8_flourOfSet 35 = .ok (.iload_n 2, 1) := by decide +kernel
theorem dX8_flourOfSet_36 : decode cX8_flourOfSet 36 = .ok (.ireturn, 1) := by decide +kernel
theorem dX8_bakersKnowing_0 : decode cX8_bakersKnowing 0 = .ok (.iconst 0, 1) := by decide +kernel
theorem dX8_bakersKnowing_1 : decode cX8_bakersKnowing 1 = .ok (.istore_n 2, 1) := by decide +kernel
theorem dX8_bakersKnowing_2 : decode cX8_bakersKnowing 2 = .ok (.iconst 0, 1) := by decide +kernel
theorem dX8_bakersKnowing_3 : decode cX8_bakersKnowing 3 = .ok (.istore_n 3, 1) := by decide +kernel
theorem dX8_bakersKnowing_4 : decode cX8_bakersKnowing 4 = .ok (.iload_n 3, 1) := by decide +kernel
theorem dX8_bakersKnowing_5 : decode cX8_bakersKnowing 5 = .ok (.aload_n 0, 1) := by decide +kernel
theorem dX8_bakersKnowing_6 : decode cX8_bakersKnowing 6 = .ok (.getfield 40, 3) := by decide +kernel
theorem dX8_bakersKnowing_9 : decode cX8_bakersKnowing 9 = .ok (.if_icmp .ge 29, 3) := by decide +kernel
theorem dX8_bakersKnowing_12 : decode cX8_bakersKnowing 12 = .ok (.aload_n 0, 1) := by decide +kernel
theorem dX8_bakersKnowing_13 : decode cX8_bakersKnowing 13 = .ok (.getfield 24, 3) := by decide +kernel
theorem dX8_bakersKnowing_16 : decode cX8_bakersKnowing 16 = .ok (.iload_n 3, 1) := by decide +kernel
theorem dX8_bakersKnowing_17 : decode cX8_bakersKnowing 17 = .ok (.invokestatic 57, 3) := by decide +kernel
theorem dX8_bakersKnowing_20 : decode cX8_bakersKnowing 20 = .ok (.iload_n 1, 1) := by decide +kernel
theorem dX8_bakersKnowing_21 : decode cX8_bakersKnowing 21 = .ok (.iand, 1) := by decide +kernel
theorem dX8_bakersKnowing_22 : decode cX8_bakersKnowing 22 = .ok (.iload_n 1, 1) := by decide +kernel
theorem dX8_bakersKnowing_23 : decode cX8_bakersKnowing 23 = .ok (.if_icmp .ne 9, 3) := by decide +kernel
theorem dX8_bakersKnowing_26 : decode cX8_bakersKnowing 26 = .ok (.iload_n 2, 1) := by decide +kernel
theorem dX8_bakersKnowing_27 : decode cX8_bakersKnowing 27 = .ok (.iconst 1, 1) := by decide +kernel
theorem dX8_bakersKnowing_28 : decode cX8_bakersKnowing 28 = .ok (.iload_n 3, 1) := by decide +kernel
theorem dX8_bakersKnowing_29 : decode cX8_bakersKnowing 29 = .ok (.ishl, 1) := by decide +kernel
theorem dX8_bakersKnowing_30 : decode cX8_bakersKnowing 30 = .ok (.ior, 1) := by decide +kernel
theorem dX8_bakersKnowing_31 : decode cX8_bakersKnowing 31 = .ok (.istore_n 2, 1) := by decide +kernel
theorem dX8_bakersKnowing_32 : decode cX8_bakersKnowing 32 = .ok (.iinc 3 1, 3) := by decide +kernel
theorem dX8_bakersKnowing_35 : decode cX8_bakersKnowing 35 = .ok (.goto (-31), 3) := by decide +kernel
theorem dX8_bakersKnowing_38 : decode cX8_bakersKnowing 38 = .ok (.iload_n 2, 1) := by decide +kernel
theorem dX8_bakersKnowing_39 : decode cX8_bakersKnowing 39 = .ok (.ireturn, 1) := by decide +kernel
theorem dJ6_numberOfTrailingZeros_0f7a4_0 : decode cJ6_numberOfTrailingZeros_0f7a4 0 = .ok (.iload_n 0, 1) := by decide +kernel
theorem dJ6_numberOfTrailingZeros_0f7a4_1 : decode cJ6_numberOfTrailingZeros_0f7a4 1 = .ok (.iconst (-1), 1) := by decide +kernel
theorem dJ6_numberOfTrailingZeros_0f7a4_2 : decode cJ6_numberOfTrailingZeros_0f7a4 2 = .ok (.ixor, 1) := by decide +kernel
theorem dJ6_numberOfTrailingZeros_0f7a4_3 : decode cJ6_numberOfTrailingZeros_0f7a4 3 = .ok (.iload_n 0, 1) := by decide +kernel
theorem dJ6_numberOfTrailingZeros_0f7a4_4 : decode cJ6_numberOfTrailingZeros_0f7a4 4 = .ok (.iconst 1, 1) := by decide +kernel
theorem dJ6_numberOfTrailingZeros_0f7a4_5 : decode cJ6_numberOfTrailingZeros_0f7a4 5 = .ok (.isub, 1) := by decide +kernel
theorem dJ6_numberOfTrailingZeros_0f7a4_6 : decode cJ6_numberOfTrailingZeros_0f7a4 6 = .ok (.iand, 1) := by decide +kernel
theorem dJ6_numberOfTrailingZeros_0f7a4_7 : decode cJ6_numberOfTrailingZeros_0f7a4 7 = .ok (.istore_n 0, 1) := by decide +kernel
theorem dJ6_numberOfTrailingZeros_0f7a4_8 : decode cJ6_numberOfTrailingZeros_0f7a4 8 = .ok (.iload_n 0, 1) := by decide +kernel
theorem dJ6_numberOfTrailingZeros_0f7a4_9 : decode cJ6_numberOfTrailingZeros_0f7a4 9 = .ok (.ifCond .gt 8, 3) := by decide +kernel
theorem dJ6_numberOfTrailingZeros_0f7a4_12 : decode cJ6_numberOfTrailingZeros_0f7a4 12 = .ok (.iload_n 0, 1) := by decide +kernel
theorem dJ6_numberOfTrailingZeros_0f7a4_13 : decode cJ6_numberOfTrailingZeros_0f7a4 13 = .ok (.bipush 32, 2) := by decide +kernel
theorem dJ6_numberOfTrailingZeros_0f7a4_15 : decode cJ6_numberOfTrailingZeros_0f7a4 15 = .ok (.iand, 1) := by decide +kernel
theorem dJ6_numberOfTrailingZeros_0f7a4_16 : decode cJ6_numberOfTrailingZeros_0f7a4 16 = .ok (.ireturn, 1) := by decide +kernel
theorem dJ6_numberOfTrailingZeros_0f7a4_17 : decode cJ6_numberOfTrailingZeros_0f7a4 17 = .ok (.iconst 1, 1) := by decide +kernel
theorem dJ6_numberOfTrailingZeros_0f7a4_18 : decode cJ6_numberOfTrailingZeros_0f7a4 18 = .ok (.istore_n 1, 1) := by decide +kernel
theorem dJ6_numberOfTrailingZeros_0f7a4_19 : decode cJ6_numberOfTrailingZeros_0f7a4 19 = .ok (.iload_n 0, 1) := by decide +kernel
theorem dJ6_numberOfTrailingZeros_0f7a4_20 : decode cJ6_numberOfTrailingZeros_0f7a4 20 = .ok (.ldc_w 264, 3) := by decide +kernel
theorem dJ6_numberOfTrailingZeros_0f7a4_23 : decode cJ6_numberOfTrailingZeros_0f7a4 23 = .ok (.if_icmp .le 11, 3) := by decide +kernel
theorem dJ6_numberOfTrailingZeros_0f7a4_26 : decode cJ6_numberOfTrailingZeros_0f7a4 26 = .ok (.iinc 1 16, 3) := by decide +kernel
theorem dJ6_numberOfTrailingZeros_0f7a4_29 : decode cJ6_numberOfTrailingZeros_0f7a4 29 = .ok (.iload_n 0, 1) := by decide +kernel
theorem dJ6_numberOfTrailingZeros_0f7a4_30 : decode cJ6_numberOfTrailingZeros_0f7a4 30 = .ok (.bipush 16, 2) := by decide +kernel
theorem dJ6_numberOfTrailingZeros_0f7a4_32 : decode cJ6_numberOfTrailingZeros_0f7a4 32 = .ok (.iushr, 1) := by decide +kernel
theorem dJ6_numberOfTrailingZeros_0f7a4_33 : decode cJ6_numberOfTrailingZeros_0f7a4 33 = .ok (.istore_n 0, 1) := by decide +kernel
theorem dJ6_numberOfTrailingZeros_0f7a4_34 : decode cJ6_numberOfTrailingZeros_0f7a4 34 = .ok (.iload_n 0, 1) := by decide +kernel
theorem dJ6_numberOfTrailingZeros_0f7a4_35 : decode cJ6_numberOfTrailingZeros_0f7a4 35 = .ok (.sipush 256, 3) := by decide +kernel
theorem dJ6_numberOfTrailingZeros_0f7a4_38 : decode cJ6_numberOfTrailingZeros_0f7a4 38 = .ok (.if_icmp .le 11, 3) := by decide +kernel
theorem dJ6_numberOfTrailingZeros_0f7a4_41 : decode cJ6_numberOfTrailingZeros_0f7a4 41 = .ok (.iinc 1 8, 3) := by decide +kernel
theorem dJ6_numberOfTrailingZeros_0f7a4_44 : decode cJ6_numberOfTrailingZeros_0f7a4 44 = .ok (.iload_n 0, 1) := by decide +kernel
theorem dJ6_numberOfTrailingZeros_0f7a4_45 : decode cJ6_numberOfTrailingZeros_0f7a4 45 = .ok (.bipush 8, 2) := by decide +kernel
theorem dJ6_numberOfTrailingZeros_0f7a4_47 : decode cJ6_numberOfTrailingZeros_0f7a4 47 = .ok (.iushr, 1) := by decide +kernel
theorem dJ6_numberOfTrailingZeros_0f7a4_48 : decode cJ6_numberOfTrailingZeros_0f7a4 48 = .ok (.istore_n 0, 1) := by decide +kernel
theorem dJ6_numberOfTrailingZeros_0f7a4_49 : decode cJ6_numberOfTrailingZeros_0f7a4 49 = .ok (.iload_n 0, 1) := by decide +kernel
theorem dJ6_numberOfTrailingZeros_0f7a4_50 : decode cJ6_numberOfTrailingZeros_0f7a4 50 = .ok (.bipush 16, 2) := by decide +kernel
theorem dJ6_numberOfTrailingZeros_0f7a4_52 : decode cJ6_numberOfTrailingZeros_0f7a4 52 = .ok (.if_icmp .le 10, 3) := by decide +kernel
theorem dJ6_numberOfTrailingZeros_0f7a4_55 : decode cJ6_numberOfTrailingZeros_0f7a4 55 = .ok (.iinc 1 4, 3) := by decide +kernel
theorem dJ6_numberOfTrailingZeros_0f7a4_58 : decode cJ6_numberOfTrailingZeros_0f7a4 58 = .ok (.iload_n 0, 1) := by decide +kernel
theorem dJ6_numberOfTrailingZeros_0f7a4_59 : decode cJ6_numberOfTrailingZeros_0f7a4 59 = .ok (.iconst 4, 1) := by decide +kernel
theorem dJ6_numberOfTrailingZeros_0f7a4_60 : decode cJ6_numberOfTrailingZeros_0f7a4 60 = .ok (.iushr, 1) := by decide +kernel
theorem dJ6_numberOfTrailingZeros_0f7a4_61 : decode cJ6_numberOfTrailingZeros_0f7a4 61 = .ok (.istore_n 0, 1) := by decide +kernel
theorem dJ6_numberOfTrailingZeros_0f7a4_62 : decode cJ6_numberOfTrailingZeros_0f7a4 62 = .ok (.iload_n 0, 1) := by decide +kernel
theorem dJ6_numberOfTrailingZeros_0f7a4_63 : decode cJ6_numberOfTrailingZeros_0f7a4 63 = .ok (.iconst 4, 1) := by decide +kernel
theorem dJ6_numberOfTrailingZeros_0f7a4_64 : decode cJ6_numberOfTrailingZeros_0f7a4 64 = .ok (.if_icmp .le 10, 3) := by decide +kernel
theorem dJ6_numberOfTrailingZeros_0f7a4_67 : decode cJ6_numberOfTrailingZeros_0f7a4 67 = .ok (.iinc 1 2, 3) := by decide +kernel
theorem dJ6_numberOfTrailingZeros_0f7a4_70 : decode cJ6_numberOfTrailingZeros_0f7a4 70 = .ok (.iload_n 0, 1) := by decide +kernel
theorem dJ6_numberOfTrailingZeros_0f7a4_71 : decode cJ6_numberOfTrailingZeros_0f7a4 71 = .ok (.iconst 2, 1) := by decide +kernel
theorem dJ6_numberOfTrailingZeros_0f7a4_72 : decode cJ6_numberOfTrailingZeros_0f7a4 72 = .ok (.iushr, 1) := by decide +kernel
theorem dJ6_numberOfTrailingZeros_0f7a4_73 : decode cJ6_numberOfTrailingZeros_0f7a4 73 = .ok (.istore_n 0, 1) := by decide +kernel
theorem dJ6_numberOfTrailingZeros_0f7a4_74 : decode cJ6_numberOfTrailingZeros_0f7a4 74 = .ok (.iload_n 1, 1) := by decide +kernel
theorem dJ6_numberOfTrailingZeros_0f7a4_75 : decode cJ6_numberOfTrailingZeros_0f7a4 75 = .ok (.iload_n 0, 1) := by decide +kernel
theorem dJ6_numberOfTrailingZeros_0f7a4_76 : decode cJ6_numberOfTrailingZeros_0f7a4 76 = .ok (.iconst 1, 1) := by decide +kernel
theorem dJ6_numberOfTrailingZeros_0f7a4_77 : decode cJ6_numberOfTrailingZeros_0f7a4 77 = .ok (.iushr, 1) := by decide +kernel
theorem dJ6_numberOfTrailingZeros_0f7a4_78 : decode cJ6_numberOfTrailingZeros_0f7a4 78 = .ok (.iadd, 1) := by decide +kernel
theorem dJ6_numberOfTrailingZeros_0f7a4_79 : decode cJ6_numberOfTrailingZeros_0f7a4 79 = .ok (.ireturn, 1) := by decide +kernel
theorem dJ6_bitCount_0f7a4_0 : decode cJ6_bitCount_0f7a4 0 = .ok (.iload_n 0, 1) := by decide +kernel
theorem dJ6_bitCount_0f7a4_1 : decode cJ6_bitCount_0f7a4 1 = .ok (.iload_n 0, 1) := by decide +kernel
theorem dJ6_bitCount_0f7a4_2 : decode cJ6_bitCount_0f7a4 2 = .ok (.iconst 1, 1) := by decide +kernel
theorem dJ6_bitCount_0f7a4_3 : decode cJ6_bitCount_0f7a4 3 = .ok (.iushr, 1) := by decide +kernel
theorem dJ6_bitCount_0f7a4_4 : decode cJ6_bitCount_0f7a4 4 = .ok (.ldc_w 265, 3) := by decide +kernel
theorem dJ6_bitCount_0f7a4_7 : decode cJ6_bitCount_0f7a4 7 = .ok (.iand, 1) := by decide +kernel
theorem dJ6_bitCount_0f7a4_8 : decode cJ6_bitCount_0f7a4 8 = .ok (.isub, 1) := by decide +kernel
theorem dJ6_bitCount_0f7a4_9 : decode cJ6_bitCount_0f7a4 9 = .ok (.istore_n 0, 1) := by decide +kernel
theorem dJ6_bitCount_0f7a4_10 : decode cJ6_bitCount_0f7a4 10 = .ok (.iload_n 0, 1) := by decide +kernel
theorem dJ6_bitCount_0f7a4_11 : decode cJ6_bitCount_0f7a4 11 = .ok (.ldc_w 266, 3) := by decide +kernel
theorem dJ6_bitCount_0f7a4_14 : decode cJ6_bitCount_0f7a4 14 = .ok (.iand, 1) := by decide +kernel
theorem dJ6_bitCount_0f7a4_15 : decode cJ6_bitCount_0f7a4 15 = .ok (.iload_n 0, 1) := by decide +kernel
theorem dJ6_bitCount_0f7a4_16 : decode cJ6_bitCount_0f7a4 16 = .ok (.iconst 2, 1) := by decide +kernel
theorem dJ6_bitCount_0f7a4_17 : decode cJ6_bitCount_0f7a4 17 = .ok (.iushr, 1) := by decide +kernel
theorem dJ6_bitCount_0f7a4_18 : decode cJ6_bitCount_0f7a4 18 = .ok (.ldc_w 266, 3) := by decide +kernel
theorem dJ6_bitCount_0f7a4_21 : decode cJ6_bitCount_0f7a4 21 = .ok (.iand, 1) := by decide +kernel
theorem dJ6_bitCount_0f7a4_22 : decode cJ6_bitCount_0f7a4 22 = .ok (.iadd, 1) := by decide +kernel
theorem dJ6_bitCount_0f7a4_23 : decode cJ6_bitCount_0f7a4 23 = .ok (.istore_n 0, 1) := by decide +kernel
theorem dJ6_bitCount_0f7a4_24 : decode cJ6_bitCount_0f7a4 24 = .ok (.iload_n 0, 1) := by decide +kernel
theorem dJ6_bitCount_0f7a4_25 : decode cJ6_bitCount_0f7a4 25 = .ok (.iload_n 0, 1) := by decide +kernel
theorem dJ6_bitCount_0f7a4_26 : decode cJ6_bitCount_0f7a4 26 = .ok (.iconst 4, 1) := by decide +kernel
theorem dJ6_bitCount_0f7a4_27 : decode cJ6_bitCount_0f7a4 27 = .ok (.iushr, 1) := by decide +kernel
theorem dJ6_bitCount_0f7a4_28 : decode cJ6_bitCount_0f7a4 28 = .ok (.iadd, 1) := by decide +kernel
theorem dJ6_bitCount_0f7a4_29 : decode cJ6_bitCount_0f7a4 29 = .ok (.ldc_w 267, 3) := by decide +kernel
theorem dJ6_bitCount_0f7a4_32 : decode cJ6_bitCount_0f7a4 32 = .ok (.iand, 1) := by decide +kernel
theorem dJ6_bitCount_0f7a4_33 : decode cJ6_bitCount_0f7a4 33 = .ok (.istore_n 0, 1) := by decide +kernel
theorem dJ6_bitCount_0f7a4_34 : decode cJ6_bitCount_0f7a4 34 = .ok (.iload_n 0, 1) := by decide +kernel
theorem dJ6_bitCount_0f7a4_35 : decode cJ6_bitCount_0f7a4 35 = .ok (.iload_n 0, 1) := by decide +kernel
theorem dJ6_bitCount_0f7a4_36 : decode cJ6_bitCount_0f7a4 36 = .ok (.bipush 8, 2) := by decide +kernel
theorem dJ6_bitCount_0f7a4_38 : decode cJ6_bitCount_0f7a4 38 = .ok (.iushr, 1) := by decide +kernel
theorem dJ6_bitCount_0f7a4_39 : decode cJ6_bitCount_0f7a4 39 = .ok (.iadd, 1) := by decide +kernel
theorem dJ6_bitCount_0f7a4_40 : decode cJ6_bitCount_0f7a4 40 = .ok (.istore_n 0, 1) := by decide +kernel
theorem dJ6_bitCount_0f7a4_41 : decode cJ6_bitCount_0f7a4 41 = .ok (.iload_n 0, 1) := by decide +kernel
theorem dJ6_bitCount_0f7a4_42 : decode cJ6_bitCount_0f7a4 42 = .ok (.iload_n 0, 1) := by decide +kernel
theorem dJ6_bitCount_0f7a4_43 : decode cJ6_bitCount_0f7a4 43 = .ok (.bipush 16, 2) := by decide +kernel
theorem dJ6_bitCount_0f7a4_45 : decode cJ6_bitCount_0f7a4 45 = .ok (.iushr, 1) := by decide +kernel
theorem dJ6_bitCount_0f7a4_46 : decode cJ6_bitCount_0f7a4 46 = .ok (.iadd, 1) := by decide +kernel
theorem dJ6_bitCount_0f7a4_47 : decode cJ6_bitCount_0f7a4 47 = .ok (.istore_n 0, 1) := by decide +kernel
theorem dJ6_bitCount_0f7a4_48 : decode cJ6_bitCount_0f7a4 48 = .ok (.iload_n 0, 1) := by decide +kernel
theorem dJ6_bitCount_0f7a4_49 : decode cJ6_bitCount_0f7a4 49 = .ok (.bipush 63, 2) := by decide +kernel
theorem dJ6_bitCount_0f7a4_51 : decode cJ6_bitCount_0f7a4 51 = .ok (.iand, 1) := by decide +kernel
theorem dJ6_bitCount_0f7a4_52 : decode cJ6_bitCount_0f7a4 52 = .ok (.ireturn, 1) := by decide +kernel
theorem dJ13_bitCount_95d88_0 : decode cJ13_bitCount_95d88 0 = .ok (.lload_n 0, 1) := by decide +kernel
theorem dJ13_bitCount_95d88_1 : decode cJ13_bitCount_95d88 1 = .ok (.lload_n 0, 1) := by decide +kernel
theorem dJ13_bitCount_95d88_2 : decode cJ13_bitCount_95d88 2 = .ok (.iconst 1, 1) := by decide +kernel
theorem dJ13_bitCount_95d88_3 : decode cJ13_bitCount_95d88 3 = .ok (.lushr, 1) := by decide +kernel
theorem dJ13_bitCount_95d88_4 : decode cJ13_bitCount_95d88 4 = .ok (.ldc2_w 314, 3) := by decide +kernel
theorem dJ13_bitCount_95d88_7 : decode cJ13_bitCount_95d88 7 = .ok (.land, 1) := by decide +kernel
theorem dJ13_bitCount_95d88_8 : decode cJ13_bitCount_95d88 8 = .ok (.lsub, 1) := by decide +kernel
theorem dJ13_bitCount_95d88_9 : decode cJ13_bitCount_95d88 9 = .ok (.lstore_n 0, 1) := by decide +kernel
theorem dJ13_bitCount_95d88_10 : decode cJ13_bitCount_95d88 10 = .ok (.lload_n 0, 1) := by decide +kernel
theorem dJ13_bitCount_95d88_11 : decode cJ13_bitCount_95d88 11 = .ok (.ldc2_w 316, 3) := by decide +kernel
theorem dJ13_bitCount_95d88_14 : decode cJ13_bitCount_95d88 14 = .ok (.land, 1) := by decide +kernel
theorem dJ13_bitCount_95d88_15 : decode cJ13_bitCount_95d88 15 = .ok (.lload_n 0, 1) := by decide +kernel
theorem dJ13_bitCount_95d88_16 : decode cJ13_bitCount_95d88 16 = .ok (.iconst 2, 1) := by decide +kernel
theorem dJ13_bitCount_95d88_17 : decode cJ13_bitCount_95d88 17 = .ok (.lushr, 1) := by decide +kernel
theorem dJ13_bitCount_95d88_18 : decode cJ13_bitCount_95d88 18 = .ok (.ldc2_w 316, 3) := by decide +kernel
theorem dJ13_bitCount_95d88_21 : decode cJ13_bitCount_95d88 21 = .ok (.land, 1) := by decide +kernel
theorem dJ13_bitCount_95d88_22 : decode cJ13_bitCount_95d88 22 = .ok (.ladd, 1) := by decide +kernel
theorem dJ13_bitCount_95d88_23 : decode cJ13_bitCount_95d88 23 = .ok (.lstore_n 0, 1) := by decide +kernel
theorem dJ13_bitCount_95d88_24 : decode cJ13_bitCount_95d88 24 = .ok (.lload_n 0, 1) := by decide +kernel
theorem dJ13_bitCount_95d88_25 : decode cJ13_bitCount_95d88 25 = .ok (.lload_n 0, 1) := by decide +kernel
theorem dJ13_bitCount_95d88_26 : decode cJ13_bitCount_95d88 26 = .ok (.iconst 4, 1) := by decide +kernel
theorem dJ13_bitCount_95d88_27 : decode cJ13_bitCount_95d88 27 = .ok (.lushr, 1) := by decide +kernel
theorem dJ13_bitCount_95d88_28 : decode cJ13_bitCount_95d88 28 = .ok (.ladd, 1) := by decide +kernel
theorem dJ13_bitCount_95d88_29 : decode cJ13_bitCount_95d88 29 = .ok (.ldc2_w 318, 3) := by decide +kernel
theorem dJ13_bitCount_95d88_32 : decode cJ13_bitCount_95d88 32 = .ok (.land, 1) := by decide +kernel
theorem dJ13_bitCount_95d88_33 : decode cJ13_bitCount_95d88 33 = .ok (.lstore_n 0, 1) := by decide +kernel
theorem dJ13_bitCount_95d88_34 : decode cJ13_bitCount_95d88 34 = .ok (.lload_n 0, 1) := by decide +kernel
theorem dJ13_bitCount_95d88_35 : decode cJ13_bitCount_95d88 35 = .ok (.lload_n 0, 1) := by decide +kernel
theorem dJ13_bitCount_95d88_36 : decode cJ13_bitCount_95d88 36 = .ok (.bipush 8, 2) := by decide +kernel
theorem dJ13_bitCount_95d88_38 : decode cJ13_bitCount_95d88 38 = .ok (.lushr, 1) := by decide +kernel
theorem dJ13_bitCount_95d88_39 : decode cJ13_bitCount_95d88 39 = .ok (.ladd, 1) := by decide +kernel
theorem dJ13_bitCount_95d88_40 : decode cJ13_bitCount_95d88 40 = .ok (.lstore_n 0, 1) := by decide +kernel
theorem dJ13_bitCount_95d88_41 : decode cJ13_bitCount_95d88 41 = .ok (.lload_n 0, 1) := by decide +kernel
theorem dJ13_bitCount_95d88_42 : decode cJ13_bitCount_95d88 42 = .ok (.lload_n 0, 1) := by decide +kernel
theorem dJ13_bitCount_95d88_43 : decode cJ13_bitCount_95d88 43 = .ok (.bipush 16, 2) := by decide +kernel
theorem dJ13_bitCount_95d88_45 : decode cJ13_bitCount_95d88 45 = .ok (.lushr, 1) := by decide +kernel
theorem dJ13_bitCount_95d88_46 : decode cJ13_bitCount_95d88 46 = .ok (.ladd, 1) := by decide +kernel
theorem dJ13_bitCount_95d88_47 : decode cJ13_bitCount_95d88 47 = .ok (.lstore_n 0, 1) := by decide +kernel
theorem dJ13_bitCount_95d88_48 : decode cJ13_bitCount_95d88 48 = .ok (.lload_n 0, 1) := by decide +kernel
theorem dJ13_bitCount_95d88_49 : decode cJ13_bitCount_95d88 49 = .ok (.lload_n 0, 1) := by decide +kernel
theorem dJ13_bitCount_95d88_50 : decode cJ13_bitCount_95d88 50 = .ok (.bipush 32, 2) := by decide +kernel
theorem dJ13_bitCount_95d88_52 : decode cJ13_bitCount_95d88 52 = .ok (.lushr, 1) := by decide +kernel
theorem dJ13_bitCount_95d88_53 : decode cJ13_bitCount_95d88 53 = .ok (.ladd, 1) := by decide +kernel
theorem dJ13_bitCount_95d88_54 : decode cJ13_bitCount_95d88 54 = .ok (.lstore_n 0, 1) := by decide +kernel
theorem dJ13_bitCount_95d88_55 : decode cJ13_bitCount_95d88 55 = .ok (.lload_n 0, 1) := by decide +kernel
theorem dJ13_bitCount_95d88_56 : decode cJ13_bitCount_95d88 56 = .ok (.l2i, 1) := by decide +kernel
theorem dJ13_bitCount_95d88_57 : decode cJ13_bitCount_95d88 57 = .ok (.bipush 127, 2) := by decide +kernel
theorem dJ13_bitCount_95d88_59 : decode cJ13_bitCount_95d88 59 = .ok (.iand, 1) := by decide +kernel
theorem dJ13_bitCount_95d88_60 : decode cJ13_bitCount_95d88 60 = .ok (.ireturn, 1) := by decide +kernel
theorem dJ9_max_7cf53_0 : decode cJ9_max_7cf53 0 = .ok (.iload_n 0, 1) := by decide +kernel
theorem dJ9_max_7cf53_1 : decode cJ9_max_7cf53 1 = .ok (.iload_n 1, 1) := by decide +kernel
theorem dJ9_max_7cf53_2 : decode cJ9_max_7cf53 2 = .ok (.if_icmp .lt 7, 3) := by decide +kernel
theorem dJ9_max_7cf53_5 : decode cJ9_max_7cf53 5 = .ok (.iload_n 0, 1) := by decide +kernel
theorem dJ9_max_7cf53_6 : decode cJ9_max_7cf53 6 = .ok (.goto 4, 3) := by decide +kernel
theorem dJ9_max_7cf53_9 : decode cJ9_max_7cf53 9 = .ok (.iload_n 1, 1) := by decide +kernel
theorem dJ9_max_7cf53_10 : decode cJ9_max_7cf53 10 = .ok (.ireturn, 1) := by decide +kernel
theorem dJ9_min_7cf53_0 : decode cJ9_min_7cf53 0 = .ok (.iload_n 0, 1) := by decide +kernel
theorem dJ9_min_7cf53_1 : decode cJ9_min_7cf53 1 = .ok (.iload_n 1, 1) := by decide +kernel
theorem dJ9_min_7cf53_2 : decode cJ9_min_7cf53 2 = .ok (.if_icmp .gt 7, 3) := by decide +kernel
theorem dJ9_min_7cf53_5 : decode cJ9_min_7cf53 5 = .ok (.iload_n 0, 1) := by decide +kernel
theorem dJ9_min_7cf53_6 : decode cJ9_min_7cf53 6 = .ok (.goto 4, 3) := by decide +kernel
theorem dJ9_min_7cf53_9 : decode cJ9_min_7cf53 9 = .ok (.iload_n 1, 1) := by decide +kernel
theorem dJ9_min_7cf53_10 : decode cJ9_min_7cf53 10 = .ok (.ireturn, 1) := by decide +kernel
end
section
theorem dX9_init_0 : decode cX9_init 0 = .ok (.aload_n 0, 1) := by decide +kernel
theorem dX9_init_1 : decode cX9_init 1 = .ok (.invokespecial 1, 3) := by decide +kernel
theorem dX9_init_4 : decode cX9_init 4 = .ok (.aload_n 0, 1) := by decide +kernel
theorem dX9_init_5 : decode cX9_init 5 = .ok (.new 7, 3) := by decide +kernel
theorem dX9_init_8 : decode cX9_init 8 = .ok (.dup, 1) := by decide +kernel
theorem dX9_init_9 : decode cX9_init 9 = .ok (.invokespecial 9, 3) := by decide +kernel
theorem dX9_init_12 : decode cX9_init 12 = .ok (.putfield 10, 3) := by decide +kernel
theorem dX9_init_15 : decode cX9_init 15 = .ok (.aload_n 0, 1) := by decide +kernel
theorem dX9_init_16 : decode cX9_init 16 = .ok (.new 16, 3) := by decide +kernel
theorem dX9_init_19 : decode cX9_init 19 = .ok (.dup, 1) := by decide +kernel
theorem dX9_init_20 : decode cX9_init 20 = .ok (.invokespecial 18, 3) := by decide +kernel
theorem dX9_init_23 : decode cX9_init 23 = .ok (.putfield 19, 3) := by decide +kernel
theorem dX9_init_26 : decode cX9_init 26 = .ok (.aload_n 0, 1) := by decide +kernel
theorem dX9_init_27 : decode cX9_init 27 = .ok (.new 23, 3) := by decide +kernel
theorem dX9_init_30 : decode cX9_init 30 = .ok (.dup, 1) := by decide +kernel
theorem dX9_init_31 : decode cX9_init 31 = .ok (.invokespecial 25, 3) := by decide +kernel
theorem dX9_init_34 : decode cX9_init 34 = .ok (.putfield 26, 3) := by decide +kernel
theorem dX9_init_37 : decode cX9_init 37 = .ok (.aload_n 0, 1) := by decide +kernel
theorem dX9_init_38 : decode cX9_init 38 = .ok (.new 30, 3) := by decide +kernel
theorem dX9_init_41 : decode cX9_init 41 = .ok (.dup, 1) := by decide +kernel
theorem dX9_init_42 : decode cX9_init 42 = .ok (.bipush 8, 2) := by decide +kernel
theorem dX9_init_44 : decode cX9_init 44 = .ok (.invokespecial 32, 3) := by decide +kernel
theorem dX9_init_47 : decode cX9_init 47 = .ok (.putfield 35, 3) := by decide +kernel
theorem dX9_init_50 : decode cX9_init 50 = .ok (.aload_n 0, 1) := by decide +kernel
theorem dX9_init_51 : decode cX9_init 51 = .ok (.new 30, 3) := by decide +kernel
theorem dX9_init_54 : decode cX9_init 54 = .ok (.dup, 1) := by decide +kernel
theorem dX9_init_55 : decode cX9_init 55 = .ok (.iconst 2, 1) := by decide +kernel
theorem dX9_init_56 : decode cX9_init 56 = .ok (.invokespecial 32, 3) := by decide +kernel
theorem dX9_init_59 : decode cX9_init 59 = .ok (.putfield 39, 3) := by decide +kernel
theorem dX9_init_62 : decode cX9_init 62 = .ok (.aload_n 0, 1) := by decide +kernel
theorem dX9_init_63 : decode cX9_init 63 = .ok (.new 42, 3) := by decide +kernel
theorem dX9_init_66 : decode cX9_init 66 = .ok (.dup, 1) := by decide +kernel
theorem dX9_init_67 : decode cX9_init 67 = .ok (.invokespecial 44, 3) := by decide +kernel
theorem dX9_init_70 : decode cX9_init 70 = .ok (.putfield 45, 3) := by decide +kernel
theorem dX9_init_73 : decode cX9_init 73 = .ok (.aload_n 0, 1) := by decide +kernel
theorem dX9_init_74 : decode cX9_init 74 = .ok (.new 49, 3) := by decide +kernel
theorem dX9_init_77 : decode cX9_init 77 = .ok (.dup, 1) := by decide +kernel
theorem dX9_init_78 : decode cX9_init 78 = .ok (.aload_n 0, 1) := by decide +kernel
theorem dX9_init_79 : decode cX9_init 79 = .ok (.getfield 45, 3) := by decide +kernel
theorem dX9_init_82 : decode cX9_init 82 = .ok (.invokespecial 51, 3) := by decide +kernel
theorem dX9_init_85 : decode cX9_init 85 = .ok (.putfield 54, 3) := by decide +kernel
theorem dX9_init_88 : decode cX9_init 88 = .ok (.aload_n 0, 1) := by decide +kernel
theorem dX9_init_89 : decode cX9_init 89 = .ok (.new 58, 3) := by decide +kernel
theorem dX9_init_92 : decode cX9_init 92 = .ok (.dup, 1) := by decide +kernel
theorem dX9_init_93 : decode cX9_init 93 = .ok (.invokespecial 60, 3) := by decide +kernel
theorem dX9_init_96 : decode cX9_init 96 = .ok (.putfield 61, 3) := by decide +kernel
theorem dX9_init_99 : decode cX9_init 99 = .ok (.aload_n 0, 1) := by decide +kernel
theorem dX9_init_100 : decode cX9_init 100 = .ok (.new 58, 3) := by decide +kernel
theorem dX9_init_103 : decode cX9_init 103 = .ok (.dup, 1) := by decide +kernel
theorem dX9_init_104 : decode cX9_init 104 = .ok (.invokespecial 60, 3) := by decide +kernel
theorem dX9_init_107 : decode cX9_init 107 = .ok (.putfield 65, 3) := by decide +kernel
theorem dX9_init_110 : decode cX9_init 110 = .ok (.aload_n 0, 1) := by decide +kernel
theorem dX9_init_111 : decode cX9_init 111 = .ok (.getfield 61, 3) := by decide +kernel
theorem dX9_init_114 : decode cX9_init 114 = .ok (.iconst 1, 1) := by decide +kernel
theorem dX9_init_115 : decode cX9_init 115 = .ok (.iconst 0, 1) := by decide +kernel
theorem dX9_init_116 : decode cX9_init 116 = .ok (.iconst 0, 1) := by decide +kernel
theorem dX9_init_117 : decode cX9_init 117 = .ok (.iconst 5, 1) := by decide +kernel
theorem dX9_init_118 : decode cX9_init 118 = .ok (.invokevirtual 68, 3) := by decide +kernel
theorem dX9_init_121 : decode cX9_init 121 = .ok (.pop, 1) := by decide +kernel
theorem dX9_init_122 : decode cX9_init 122 = .ok (.return_, 1) := by decide +kernel
theorem dX9_write_0 : decode cX9_write 0 = .ok (.iload_n 1, 1) := by decide +kernel
theorem dX9_write_1 : decode cX9_write 1 = .ok (.iconst 1, 1) := by decide +kernel
theorem dX9_write_2 : decode cX9_write 2 = .ok (.bipush 8, 2) := by decide +kernel
theorem dX9_write_4 : decode cX9_write 4 = .ok (.invokestatic 72, 3) := by decide +kernel
theorem dX9_write_7 : decode cX9_write 7 = .ok (.ifCond .ne 5, 3) := by decide +kernel
theorem dX9_write_10 : decode cX9_write 10 = .ok (.iconst (-1), 1) := by decide +kernel
theorem dX9_write_11 : decode cX9_write 11 = .ok (.ireturn, 1) := by decide +kernel
theorem dX9_write_12 : decode cX9_write 12 = .ok (.aload_n 0, 1) := by decide +kernel
theorem dX9_write_13 : decode cX9_write 13 = .ok (.getfield 10, 3) := by decide +kernel
theorem dX9_write_16 : decode cX9_write 16 = .ok (.iload_n 1, 1) := by decide +kernel
theorem dX9_write_17 : decode cX9_write 17 = .ok (.invokevirtual 76, 3) := by decide +kernel
theorem dX9_write_20 : decode cX9_write 20 = .ok (.ifCond .ne 6, 3) := by decide +kernel
theorem dX9_write_23 : decode cX9_write 23 = .ok (.bipush (-3), 2) := by decide +kernel
theorem dX9_write_25 : decode cX9_write 25 = .ok (.ireturn, 1) := by decide +kernel
theorem dX9_write_26 : decode cX9_write 26 = .ok (.aload_n 0, 1) := by decide +kernel
theorem dX9_write_27 : decode cX9_write 27 = .ok (.getfield 10, 3) := by decide +kernel
theorem dX9_write_30 : decode cX9_write 30 = .ok (.iload_n 1, 1) := by decide +kernel
theorem dX9_write_31 : decode cX9_write 31 = .ok (.lload_n 2, 1) := by decide +kernel
theorem dX9_write_32 : decode cX9_write 32 = .ok (.invokevirtual 80, 3) := by decide +kernel
theorem dX9_write_35 : decode cX9_write 35 = .ok (.aload_n 0, 1) := by decide +kernel
theorem dX9_write_36 : decode cX9_write 36 = .ok (.getfield 10, 3) := by decide +kernel
theorem dX9_write_39 : decode cX9_write 39 = .ok (.invokevirtual 84, 3) := by decide +kernel
theorem dX9_write_42 : decode cX9_write 42 = .ok (.ireturn, 1) := by decide +kernel
theorem dX9_wipe_0 : decode cX9_wipe 0 = .ok (.aload_n 0, 1) := by decide +kernel
theorem dX9_wipe_1 : decode cX9_wipe 1 = .ok (.getfield 10, 3) := by decide +kernel
theorem dX9_wipe_4 : decode cX9_wipe 4 = .ok (.invokevirtual 84, 3) := by decide +kernel
theorem dX9_wipe_7 : decode cX9_wipe 7 = .ok (.istore_n 1, 1) := by decide +kernel
theorem dX9_wipe_8 : decode cX9_wipe 8 = .ok (.aload_n 0, 1) := by decide +kernel
theorem dX9_wipe_9 : decode cX9_wipe 9 = .ok (.getfield 10, 3) := by decide +kernel
theorem dX9_wipe_12 : decode cX9_wipe 12 = .ok (.invokevirtual 88, 3) := by decide +kernel
theorem dX9_wipe_15 : decode cX9_wipe 15 = .ok (.iload_n 1, 1) := by decide +kernel
theorem dX9_wipe_16 : decode cX9_wipe 16 = .ok (.ireturn, 1) := by decide +kernel
theorem dX9_fault_0 : decode cX9_fault 0 = .ok (.aload_n 0, 1) := by decide +kernel
theorem dX9_fault_1 : decode cX9_fault 1 = .ok (.getfield 19, 3) := by decide +kernel
theorem dX9_fault_4 : decode cX9_fault 4 = .ok (.aload_n 0, 1) := by decide +kernel
theorem dX9_fault_5 : decode cX9_fault 5 = .ok (.getfield 10, 3) := by decide +kernel
theorem dX9_fault_8 : decode cX9_fault 8 = .ok (.aload_n 0, 1) := by decide +kernel
theorem dX9_fault_9 : decode cX9_fault 9 = .ok (.getfield 65, 3) := by decide +kernel
theorem dX9_fault_12 : decode cX9_fault 12 = .ok (.invokevirtual 91, 3) := by decide +kernel
theorem dX9_fault_15 : decode cX9_fault 15 = .ok (.ireturn, 1) := by decide +kernel
theorem dX9_lay_0 : decode cX9_lay 0 = .ok (.aload_n 0, 1) := by decide +kernel
theorem dX9_lay_1 : decode cX9_lay 1 = .ok (.getfield 19, 3) := by decide +kernel
theorem dX9_lay_4 : decode cX9_lay 4 = .ok (.aload_n 0, 1) := by decide +kernel
theorem dX9_lay_5 : decode cX9_lay 5 = .ok (.getfield 10, 3) := by decide +kernel
theorem dX9_lay_8 : decode cX9_lay 8 = .ok (.aload_n 0, 1) := by decide +kernel
theorem dX9_lay_9 : decode cX9_lay 9 = .ok (.getfield 65, 3) := by decide +kernel
theorem dX9_lay_12 : decode cX9_lay 12 = .ok (.invokevirtual 91, 3) := by decide +kernel
theorem dX9_lay_15 : decode cX9_lay 15 = .ok (.bipush (-4), 2) := by decide +kernel
theorem dX9_lay_17 : decode cX9_lay 17 = .ok (.if_icmp .ne 13, 3) := by decide +kernel
theorem dX9_lay_20 : decode cX9_lay 20 = .ok (.aload_n 0, 1) := by decide +kernel
theorem dX9_lay_21 : decode cX9_lay 21 = .ok (.getfield 65, 3) := by decide +kernel
theorem dX9_lay_24 : decode cX9_lay 24 = .ok (.invokevirtual 95, 3) := by decide +kernel
theorem dX9_lay_27 : decode cX9_lay 27 = .ok (.ifCond .ne 6, 3) := by decide +kernel
theorem dX9_lay_30 : decode cX9_lay 30 = .ok (.bipush (-2), 2) := by decide +kernel
theorem dX9_lay_32 : decode cX9_lay 32 = .ok (.ireturn, 1) := by decide +kernel
theorem dX9_lay_33 : decode cX9_lay 33 = .ok (.aload_n 0, 1) := by decide +kernel
theorem dX9_lay_34 : decode cX9_lay 34 = .ok (.getfield 61, 3) := by decide +kernel
theorem dX9_lay_37 : decode cX9_lay 37 = .ok (.astore_n 1, 1) := by decide +kernel
theorem dX9_lay_38 : decode cX9_lay 38 = .ok (.aload_n 0, 1) := by decide +kernel
theorem dX9_lay_39 : decode cX9_lay 39 = .ok (.aload_n 0, 1) := by decide +kernel
theorem dX9_lay_40 : decode cX9_lay 40 = .ok (.getfield 65, 3) := by decide +kernel
theorem dX9_lay_43 : decode cX9_lay 43 = .ok (.putfield 61, 3) := by decide +kernel
theorem dX9_lay_46 : decode cX9_lay 46 = .ok (.aload_n 0, 1) := by decide +kernel
theorem dX9_lay_47 : decode cX9_lay 47 = .ok (.aload_n 1, 1) := by decide +kernel
theorem dX9_lay_48 : decode cX9_lay 48 = .ok (.putfield 65, 3) := by decide +kernel
theorem dX9_lay_51 : decode cX9_lay 51 = .ok (.aload_n 0, 1) := by decide +kernel
theorem dX9_lay_52 : decode cX9_lay 52 = .ok (.getfield 26, 3) := by decide +kernel
theorem dX9_lay_55 : decode cX9_lay 55 = .ok (.invokevirtual 98, 3) := by decide +kernel
theorem dX9_lay_58 : decode cX9_lay 58 = .ok (.aload_n 0, 1) := by decide +kernel
theorem dX9_lay_59 : decode cX9_lay 59 = .ok (.getfield 35, 3) := by decide +kernel
theorem dX9_lay_62 : decode cX9_lay 62 = .ok (.invokevirtual 99, 3) := by decide +kernel
theorem dX9_lay_65 : decode cX9_lay 65 = .ok (.aload_n 0, 1) := by decide +kernel
theorem dX9_lay_66 : decode cX9_lay 66 = .ok (.getfield 39, 3) := by decide +kernel
theorem dX9_lay_69 : decode cX9_lay 69 = .ok (.invokevirtual 99, 3) := by decide +kernel
theorem dX9_lay_72 : decode cX9_lay 72 = .ok (.aload_n 0, 1) := by decide +kernel
theorem dX9_lay_73 : decode cX9_lay 73 = .ok (.getfield 61, 3) := by decide +kernel
theorem dX9_lay_76 : decode cX9_lay 76 = .ok (.invokevirtual 95, 3) := by decide +kernel
theorem dX9_lay_79 : decode cX9_lay 79 = .ok (.ireturn, 1) := by decide +kernel
theorem dX9_word_0 : decode cX9_word 0 = .ok (.aload_n 0, 1) := by decide +kernel
theorem dX9_word_1 : decode cX9_word 1 = .ok (.iload_n 1, 1) := by decide +kernel
theorem dX9_word_2 : decode cX9_word 2 = .ok (.invokevirtual 100, 3) := by decide +kernel
theorem dX9_word_5 : decode cX9_word 5 = .ok (.ifCond .ne 5, 3) := by decide +kernel
theorem dX9_word_8 : decode cX9_word 8 = .ok (.iconst (-1), 1) := by decide +kernel
theorem dX9_word_9 : decode cX9_word 9 = .ok (.ireturn, 1) := by decide +kernel
theorem dX9_word_10 : decode cX9_word 10 = .ok (.iload_n 2, 1) := by decide +kernel
theorem dX9_word_11 : decode cX9_word 11 = .ok (.tableswitch 55 0 2 #[25, 34, 43], 25) := by decide +kernel
theorem dX9_word_36 : decode cX9_word 36 = .ok (.aload_n 0, 1) := by decide +kernel
theorem dX9_word_37 : decode cX9_word 37 = .ok (.getfield 61, 3) := by decide +kernel
theorem dX9_word_40 : decode cX9_word 40 = .ok (.iload_n 1, 1) := by decide +kernel
theorem dX9_word_41 : decode cX9_word 41 = .ok (.invokevirtual 103, 3) := by decide +kernel
theorem dX9_word_44 : decode cX9_word 44 = .ok (.ireturn, 1) := by decide +kernel
theorem dX9_word_45 : decode cX9_word 45 = .ok (.aload_n 0, 1) := by decide +kernel
theorem dX9_word_46 : decode cX9_word 46 = .ok (.getfield 61, 3) := by decide +kernel
theorem dX9_word_49 : decode cX9_word 49 = .ok (.iload_n 1, 1) := by decide +kernel
theorem dX9_word_50 : decode cX9_word 50 = .ok (.invokevirtual 107, 3) := by decide +kernel
theorem dX9_word_53 : decode cX9_word 53 = .ok (.ireturn, 1) := by decide +kernel
theorem dX9_word_54 : decode cX9_word 54 = .ok (.aload_n 0, 1) := by decide +kernel
theorem dX9_word_55 : decode cX9_word 55 = .ok (.getfield 61, 3) := by decide +kernel
theorem dX9_word_58 : decode cX9_word 58 = .ok (.iload_n 1, 1) := by decide +kernel
theorem dX9_word_59 : decode cX9_word 59 = .ok (.invokevirtual 103, 3) := by decide +kernel
theorem dX9_word_62 : decode cX9_word 62 = .ok (.invokestatic 110, 3) := by decide +kernel
theorem dX9_word_65 : decode cX9_word 65 = .ok (.ireturn, 1) := by decide +kernel
theorem dX9_word_66 : decode cX9_word 66 = .ok (.iconst (-1), 1) := by decide +kernel
theorem dX9_word_67 : decode cX9_word 67 = .ok (.ireturn, 1) := by decide +kernel
theorem dX9_bake_0 : decode cX9_bake 0 = .ok (.aload_n 0, 1) := by decide +kernel
theorem dX9_bake_1 : decode cX9_bake 1 = .ok (.iload_n 1, 1) := by decide +kernel
theorem dX9_bake_2 : decode cX9_bake 2 = .ok (.invokevirtual 100, 3) := by decide +kernel
theorem dX9_bake_5 : decode cX9_bake 5 = .ok (.ifCond .eq 12, 3) := by decide +kernel
theorem dX9_bake_8 : decode cX9_bake 8 = .ok (.iload_n 2, 1) := by decide +kernel
theorem dX9_bake_9 : decode cX9_bake 9 = .ok (.iconst 0, 1) := by decide +kernel
theorem dX9_bake_10 : decode cX9_bake 10 = .ok (.iconst 3, 1) := by decide +kernel
theorem dX9_bake_11 : decode cX9_bake 11 = .ok (.invokestatic 72, 3) := by decide +kernel
theorem dX9_bake_14 : decode cX9_bake 14 = .ok (.ifCond .ne 5, 3) := by decide +kernel
theorem dX9_bake_17 : decode cX9_bake 17 = .ok (.iconst (-1), 1) := by decide +kernel
theorem dX9_bake_18 : decode cX9_bake 18 = .ok (.ireturn, 1) := by decide +kernel
theorem dX9_bake_19 : decode cX9_bake 19 = .ok (.aload_n 0, 1) := by decide +kernel
theorem dX9_bake_20 : decode cX9_bake 20 = .ok (.getfield 26, 3) := by decide +kernel
theorem dX9_bake_23 : decode cX9_bake 23 = .ok (.invokevirtual 115, 3) := by decide +kernel
theorem dX9_bake_26 : decode cX9_bake 26 = .ok (.ifCond .eq 6, 3) := by decide +kernel
theorem dX9_bake_29 : decode cX9_bake 29 = .ok (.bipush (-3), 2) := by decide +kernel
theorem dX9_bake_31 : decode cX9_bake 31 = .ok (.ireturn, 1) := by decide +kernel
theorem dX9_bake_32 : decode cX9_bake 32 = .ok (.aload_n 0, 1) := by decide +kernel
theorem dX9_bake_33 : decode cX9_bake 33 = .ok (.getfield 35, 3) := by decide +kernel
theorem dX9_bake_36 : decode cX9_bake 36 = .ok (.aload_n 0, 1) := by decide +kernel
theorem dX9_bake_37 : decode cX9_bake 37 = .ok (.getfield 26, 3) := by decide +kernel
theorem dX9_bake_40 : decode cX9_bake 40 = .ok (.invokevirtual 119, 3) := by decide +kernel
theorem dX9_bake_43 : decode cX9_bake 43 = .ok (.aload_n 0, 1) := by decide +kernel
theorem dX9_bake_44 : decode cX9_bake 44 = .ok (.getfield 61, 3) := by decide +kernel
theorem dX9_bake_47 : decode cX9_bake 47 = .ok (.iload_n 2, 1) := by decide +kernel
theorem dX9_bake_48 : decode cX9_bake 48 = .ok (.iconst 3, 1) := by decide +kernel
theorem dX9_bake_49 : decode cX9_bake 49 = .ok (.if_icmp .ne 11, 3) := by decide +kernel
theorem dX9_bake_52 : decode cX9_bake 52 = .ok (.aload_n 0, 1) := by decide +kernel
theorem dX9_bake_53 : decode cX9_bake 53 = .ok (.iload_n 1, 1) := by decide +kernel
theorem dX9_bake_54 : decode cX9_bake 54 = .ok (.invokevirtual 123, 3) := by decide +kernel
theorem dX9_bake_57 : decode cX9_bake 57 = .ok (.goto 4, 3) := by decide +kernel
theorem dX9_bake_60 : decode cX9_bake 60 = .ok (.iload_n 1, 1) := by decide +kernel
theorem dX9_bake_61 : decode cX9_bake 61 = .ok (.invokevirtual 103, 3) := by decide +kernel
theorem dX9_bake_64 : decode cX9_bake 64 = .ok (.istore_n 3, 1) := by decide +kernel
theorem dX9_bake_65 : decode cX9_bake 65 = .ok (.aload_n 0, 1) := by decide +kernel
theorem dX9_bake_66 : decode cX9_bake 66 = .ok (.getfield 26, 3) := by decide +kernel
theorem dX9_bake_69 : decode cX9_bake 69 = .ok (.iload_n 1, 1) := by decide +kernel
theorem dX9_bake_70 : decode cX9_bake 70 = .ok (.iload_n 2, 1) := by decide +kernel
theorem dX9_bake_71 : decode cX9_bake 71 = .ok (.iload_n 3, 1) := by decide +kernel
theorem dX9_bake_72 : decode cX9_bake 72 = .ok (.invokevirtual 126, 3) := by decide +kernel
theorem dX9_bake_75 : decode cX9_bake 75 = .ok (.aload_n 0, 1) := by decide +kernel
theorem dX9_bake_76 : decode cX9_bake 76 = .ok (.getfield 26, 3) := by decide +kernel
theorem dX9_bake_79 : decode cX9_bake 79 = .ok (.iload_n 3, 1) := by decide +kernel
theorem dX9_bake_80 : decode cX9_bake 80 = .ok (.iload_n 2, 1) := by decide +kernel
theorem dX9_bake_81 : decode cX9_bake 81 = .ok (.invokestatic 130, 3) := by decide +kernel
theorem dX9_bake_84 : decode cX9_bake 84 = .ok (.invokevirtual 134, 3) := by decide +kernel
theorem dX9_bake_87 : decode cX9_bake 87 = .ok (.aload_n 0, 1) := by decide +kernel
theorem dX9_bake_88 : decode cX9_bake 88 = .ok (.getfield 26, 3) := by decide +kernel
theorem dX9_bake_91 : decode cX9_bake 91 = .ok (.invokevirtual 137, 3) := by decide +kernel
theorem dX9_bake_94 : decode cX9_bake 94 = .ok (.ireturn, 1) := by decide +kernel
theorem dX9_day_0 : decode cX9_day 0 = .ok (.aload_n 0, 1) := by decide +kernel
theorem dX9_day_1 : decode cX9_day 1 = .ok (.getfield 35, 3) := by decide +kernel
theorem dX9_day_4 : decode cX9_day 4 = .ok (.aload_n 0, 1) := by decide +kernel
theorem dX9_day_5 : decode cX9_day 5 = .ok (.getfield 26, 3) := by decide +kernel
theorem dX9_day_8 : decode cX9_day 8 = .ok (.invokevirtual 119, 3) := by decide +kernel
theorem dX9_day_11 : decode cX9_day 11 = .ok (.aload_n 0, 1) := by decide +kernel
theorem dX9_day_12 : decode cX9_day 12 = .ok (.getfield 26, 3) := by decide +kernel
theorem dX9_day_15 : decode cX9_day 15 = .ok (.invokevirtual 140, 3) := by decide +kernel
theorem dX9_day_18 : decode cX9_day 18 = .ok (.iconst 0, 1) := by decide +kernel
theorem dX9_day_19 : decode cX9_day 19 = .ok (.istore_n 1, 1) := by decide +kernel
theorem dX9_day_20 : decode cX9_day 20 = .ok (.iconst 0, 1) := by decide +kernel
theorem dX9_day_21 : decode cX9_day 21 = .ok (.istore_n 2, 1) := by decide +kernel
theorem dX9_day_22 : decode cX9_day 22 = .ok (.iload_n 2, 1) := by decide +kernel
theorem dX9_day_23 : decode cX9_day 23 = .ok (.aload_n 0, 1) := by decide +kernel
theorem dX9_day_24 : decode cX9_day 24 = .ok (.getfield 26, 3) := by decide +kernel
theorem dX9_day_27 : decode cX9_day 27 = .ok (.invokevirtual 137, 3) := by decide +kernel
theorem dX9_day_30 : decode cX9_day 30 = .ok (.if_icmp .ge 29, 3) := by decide +kernel
theorem dX9_day_33 : decode cX9_day 33 = .ok (.aload_n 0, 1) := by decide +kernel
theorem dX9_day_34 : decode cX9_day 34 = .ok (.iload_n 2, 1) := by decide +kernel
theorem dX9_day_35 : decode cX9_day 35 = .ok (.invokevirtual 143, 3) := by decide +kernel
theorem dX9_day_38 : decode cX9_day 38 = .ok (.aload_n 0, 1) := by decide +kernel
theorem dX9_day_39 : decode cX9_day 39 = .ok (.getfield 26, 3) := by decide +kernel
theorem dX9_day_42 : decode cX9_day 42 = .ok (.iload_n 2, 1) := by decide +kernel
theorem dX9_day_43 : decode cX9_day 43 = .ok (.iconst 0, 1) := by decide +kernel
theorem dX9_day_44 : decode cX9_day 44 = .ok (.invokevirtual 146, 3) := by decide +kernel
theorem dX9_day_47 : decode cX9_day 47 = .ok (.if_icmp .ne 6, 3) := by decide +kernel
theorem dX9_day_50 : decode cX9_day 50 = .ok (.iinc 1 1, 3) := by decide +kernel
theorem dX9_day_53 : decode cX9_day 53 = .ok (.iinc 2 1, 3) := by decide +kernel
theorem dX9_day_56 : decode cX9_day 56 = .ok (.goto (-34), 3) := by decide +kernel
theorem dX9_day_59 : decode cX9_day 59 = .ok (.iload_n 1, 1) := by decide +kernel
theorem dX9_day_60 : decode cX9_day 60 = .ok (.ireturn, 1) := by decide +kernel
theorem dX9_bite_0 : decode cX9_bite 0 = .ok (.aload_n 0, 1) := by decide +kernel
theorem dX9_bite_1 : decode cX9_bite 1 = .ok (.getfield 26, 3) := by decide +kernel
theorem dX9_bite_4 : decode cX9_bite 4 = .ok (.iload_n 1, 1) := by decide +kernel
theorem dX9_bite_5 : decode cX9_bite 5 = .ok (.invokevirtual 149, 3) := by decide +kernel
theorem dX9_bite_8 : decode cX9_bite 8 = .ok (.ifCond .ne 5, 3) := by decide +kernel
theorem dX9_bite_11 : decode cX9_bite 11 = .ok (.iconst (-1), 1) := by decide +kernel
theorem dX9_bite_12 : decode cX9_bite 12 = .ok (.ireturn, 1) := by decide +kernel
theorem dX9_bite_13 : decode cX9_bite 13 = .ok (.aload_n 0, 1) := by decide +kernel
theorem dX9_bite_14 : decode cX9_bite 14 = .ok (.getfield 26, 3) := by decide +kernel
theorem dX9_bite_17 : decode cX9_bite 17 = .ok (.iload_n 1, 1) := by decide +kernel
theorem dX9_bite_18 : decode cX9_bite 18 = .ok (.iconst 3, 1) := by decide +kernel
theorem dX9_bite_19 : decode cX9_bite 19 = .ok (.invokevirtual 146, 3) := by decide +kernel
theorem dX9_bite_22 : decode cX9_bite 22 = .ok (.bipush 9, 2) := by decide +kernel
theorem dX9_bite_24 : decode cX9_bite 24 = .ok (.if_icmp .lt 6, 3) := by decide +kernel
theorem dX9_bite_27 : decode cX9_bite 27 = .ok (.bipush (-3), 2) := by decide +kernel
theorem dX9_bite_29 : decode cX9_bite 29 = .ok (.ireturn, 1) := by decide +kernel
theorem dX9_bite_30 : decode cX9_bite 30 = .ok (.aload_n 0, 1) := by decide +kernel
theorem dX9_bite_31 : decode cX9_bite 31 = .ok (.getfield 35, 3) := by decide +kernel
theorem dX9_bite_34 : decode cX9_bite 34 = .ok (.aload_n 0, 1) := by decide +kernel
theorem dX9_bite_35 : decode cX9_bite 35 = .ok (.getfield 26, 3) := by decide +kernel
theorem dX9_bite_38 : decode cX9_bite 38 = .ok (.invokevirtual 119, 3) := by decide +kernel
theorem dX9_bite_41 : decode cX9_bite 41 = .ok (.aload_n 0, 1) := by decide +kernel
theorem dX9_bite_42 : decode cX9_bite 42 = .ok (.getfield 26, 3) := by decide +kernel
theorem dX9_bite_45 : decode cX9_bite 45 = .ok (.iload_n 1, 1) := by decide +kernel
theorem dX9_bite_46 : decode cX9_bite 46 = .ok (.invokevirtual 152, 3) := by decide +kernel
theorem dX9_bite_49 : decode cX9_bite 49 = .ok (.aload_n 0, 1) := by decide +kernel
theorem dX9_bite_50 : decode cX9_bite 50 = .ok (.getfield 26, 3) := by decide +kernel
theorem dX9_bite_53 : decode cX9_bite 53 = .ok (.iload_n 1, 1) := by decide +kernel
theorem dX9_bite_54 : decode cX9_bite 54 = .ok (.iconst 3, 1) := by decide +kernel
theorem dX9_bite_55 : decode cX9_bite 55 = .ok (.invokevirtual 146, 3) := by decide +kernel
theorem dX9_bite_58 : decode cX9_bite 58 = .ok (.ireturn, 1) := by decide +kernel
theorem dX9_take_0 : decode cX9_take 0 = .ok (.aload_n 0, 1) := by decide +kernel
theorem dX9_take_1 : decode cX9_take 1 = .ok (.getfield 26, 3) := by decide +kernel
theorem dX9_take_4 : decode cX9_take 4 = .ok (.iload_n 1, 1) := by decide +kernel
theorem dX9_take_5 : decode cX9_take 5 = .ok (.invokevirtual 149, 3) := by decide +kernel
theorem dX9_take_8 : decode cX9_take 8 = .ok (.ifCond .ne 5, 3) := by decide +kernel
theorem dX9_take_11 : decode cX9_take 11 = .ok (.iconst (-1), 1) := by decide +kernel
theorem dX9_take_12 : decode cX9_take 12 = .ok (.ireturn, 1) := by decide +kernel
theorem dX9_take_13 : decode cX9_take 13 = .ok (.aload_n 0, 1) := by decide +kernel
theorem dX9_take_14 : decode cX9_take 14 = .ok (.getfield 35, 3) := by decide +kernel
theorem dX9_take_17 : decode cX9_take 17 = .ok (.aload_n 0, 1) := by decide +kernel
theorem dX9_take_18 : decode cX9_take 18 = .ok (.getfield 26, 3) := by decide +kernel
theorem dX9_take_21 : decode cX9_take 21 = .ok (.invokevirtual 119, 3) := by decide +kernel
theorem dX9_take_24 : decode cX9_take 24 = .ok (.aload_n 0, 1) := by decide +kernel
theorem dX9_take_25 : decode cX9_take 25 = .ok (.getfield 26, 3) := by decide +kernel
theorem dX9_take_28 : decode cX9_take 28 = .ok (.iload_n 1, 1) := by decide +kernel
theorem dX9_take_29 : decode cX9_take 29 = .ok (.iconst 0, 1) := by decide +kernel
theorem dX9_take_30 : decode cX9_take 30 = .ok (.invokevirtual 146, 3) := by decide +kernel
theorem dX9_take_33 : decode cX9_take 33 = .ok (.istore_n 2, 1) := by decide +kernel
theorem dX9_take_34 : decode cX9_take 34 = .ok (.aload_n 0, 1) := by decide +kernel
theorem dX9_take_35 : decode cX9_take 35 = .ok (.getfield 26, 3) := by decide +kernel
theorem dX9_take_38 : decode cX9_take 38 = .ok (.iload_n 1, 1) := by decide +kernel
theorem dX9_take_39 : decode cX9_take 39 = .ok (.invokevirtual 155, 3) := by decide +kernel
theorem dX9_take_42 : decode cX9_take 42 = .ok (.iload_n 2, 1) := by decide +kernel
theorem dX9_take_43 : decode cX9_take 43 = .ok (.ireturn, 1) := by decide +kernel
theorem dX9_undo_0 : decode cX9_undo 0 = .ok (.aload_n 0, 1) := by decide +kernel
theorem dX9_undo_1 : decode cX9_undo 1 = .ok (.getfield 35, 3) := by decide +kernel
theorem dX9_undo_4 : decode cX9_undo 4 = .ok (.invokevirtual 158, 3) := by decide +kernel
theorem dX9_undo_7 : decode cX9_undo 7 = .ok (.ifCond .ne 6, 3) := by decide +kernel
theorem dX9_undo_10 : decode cX9_undo 10 = .ok (.bipush (-2), 2) := by decide +kernel
theorem dX9_undo_12 : decode cX9_undo 12 = .ok (.ireturn, 1) := by decide +kernel
theorem dX9_undo_13 : decode cX9_undo 13 = .ok (.aload_n 0, 1) := by decide +kernel
theorem dX9_undo_14 : decode cX9_undo 14 = .ok (.getfield 35, 3) := by decide +kernel
theorem dX9_undo_17 : decode cX9_undo 17 = .ok (.aload_n 0, 1) := by decide +kernel
theorem dX9_undo_18 : decode cX9_undo 18 = .ok (.getfield 26, 3) := by decide +kernel
theorem dX9_undo_21 : decode cX9_undo 21 = .ok (.invokevirtual 159, 3) := by decide +kernel
theorem dX9_undo_24 : decode cX9_undo 24 = .ok (.aload_n 0, 1) := by decide +kernel
theorem dX9_undo_25 : decode cX9_undo 25 = .ok (.getfield 35, 3) := by decide +kernel
theorem dX9_undo_28 : decode cX9_undo 28 = .ok (.invokevirtual 158, 3) := by decide +kernel
theorem dX9_undo_31 : decode cX9_undo 31 = .ok (.ireturn, 1) := by decide +kernel
theorem dX9_loaf_0 : decode cX9_loaf 0 = .ok (.aload_n 0, 1) := by decide +kernel
theorem dX9_loaf_1 : decode cX9_loaf 1 = .ok (.getfield 26, 3) := by decide +kernel
theorem dX9_loaf_4 : decode cX9_loaf 4 = .ok (.iload_n 1, 1) := by decide +kernel
theorem dX9_loaf_5 : decode cX9_loaf 5 = .ok (.invokevirtual 149, 3) := by decide +kernel
theorem dX9_loaf_8 : decode cX9_loaf 8 = .ok (.ifCond .ne 5, 3) := by decide +kernel
theorem dX9_loaf_11 : decode cX9_loaf 11 = .ok (.iconst (-1), 1) := by decide +kernel
theorem dX9_loaf_12 : decode cX9_loaf 12 = .ok (.ireturn, 1) := by decide +kernel
theorem dX9_loaf_13 : decode cX9_loaf 13 = .ok (.iload_n 2, 1) := by decide +kernel
theorem dX9_loaf_14 : decode cX9_loaf 14 = .ok (.tableswitch 90 0 5 #[38, 48, 58, 68, 78, 84], 38) := by decide +kernel
theorem dX9_loaf_52 : decode cX9_loaf 52 = .ok (.aload_n 0, 1) := by decide +kernel
theorem dX9_loaf_53 : decode cX9_loaf 53 = .ok (.getfield 26, 3) := by decide +kernel
theorem dX9_loaf_56 : decode cX9_loaf 56 = .ok (.iload_n 1, 1) := by decide +kernel
theorem dX9_loaf_57 : decode cX9_loaf 57 = .ok (.iconst 0, 1) := by decide +kernel
theorem dX9_loaf_58 : decode cX9_loaf 58 = .ok (.invokevirtual 146, 3) := by decide +kernel
theorem dX9_loaf_61 : decode cX9_loaf 61 = .ok (.ireturn, 1) := by decide +kernel
theorem dX9_loaf_62 : decode cX9_loaf 62 = .ok (.aload_n 0, 1) := by decide +kernel
theorem dX9_loaf_63 : decode cX9_loaf 63 = .ok (.getfield 26, 3) := by decide +kernel
theorem dX9_loaf_66 : decode cX9_loaf 66 = .ok (.iload_n 1, 1) := by decide +kernel
theorem dX9_loaf_67 : decode cX9_loaf 67 = .ok (.iconst 1, 1) := by decide +kernel
theorem dX9_loaf_68 : decode cX9_loaf 68 = .ok (.invokevirtual 146, 3) := by decide +kernel
theorem dX9_loaf_71 : decode cX9_loaf 71 = .ok (.ireturn, 1) := by decide +kernel
theorem dX9_loaf_72 : decode cX9_loaf 72 = .ok (.aload_n 0, 1) := by decide +kernel
theorem dX9_loaf_73 : decode cX9_loaf 73 = .ok (.getfield 26, 3) := by decide +kernel
theorem dX9_loaf_76 : decode cX9_loaf 76 = .ok (.iload_n 1, 1) := by decide +kernel
theorem dX9_loaf_77 : decode cX9_loaf 77 = .ok (.iconst 2, 1) := by decide +kernel
theorem dX9_loaf_78 : decode cX9_loaf 78 = .ok (.invokevirtual 146, 3) := by decide +kernel
theorem dX9_loaf_81 : decode cX9_loaf 81 = .ok (.ireturn, 1) := by decide +kernel
theorem dX9_loaf_82 : decode cX9_loaf 82 = .ok (.aload_n 0, 1) := by decide +kernel
theorem dX9_loaf_83 : decode cX9_loaf 83 = .ok (.getfield 26, 3) := by decide +kernel
theorem dX9_loaf_86 : decode cX9_loaf 86 = .ok (.iload_n 1, 1) := by decide +kernel
theorem dX9_loaf_87 : decode cX9_loaf 87 = .ok (.iconst 3, 1) := by decide +kernel
theorem dX9_loaf_88 : decode cX9_loaf 88 = .ok (.invokevirtual 146, 3) := by decide +kernel
theorem dX9_loaf_91 : decode cX9_loaf 91 = .ok (.ireturn, 1) := by decide +kernel
theorem dX9_loaf_92 : decode cX9_loaf 92 = .ok (.aload_n 0, 1) := by decide +kernel
theorem dX9_loaf_93 : decode cX9_loaf 93 = .ok (.iload_n 1, 1) := by decide +kernel
theorem dX9_loaf_94 : decode cX9_loaf 94 = .ok (.invokevirtual 162, 3) := by decide +kernel
theorem dX9_loaf_97 : decode cX9_loaf 97 = .ok (.ireturn, 1) := by decide +kernel
theorem dX9_loaf_98 : decode cX9_loaf 98 = .ok (.aload_n 0, 1) := by decide +kernel
theorem dX9_loaf_99 : decode cX9_loaf 99 = .ok (.iload_n 1, 1) := by decide +kernel
theorem dX9_loaf_100 : decode cX9_loaf 100 = .ok (.invokevirtual 143, 3) := by decide +kernel
theorem dX9_loaf_103 : decode cX9_loaf 103 = .ok (.ireturn, 1) := by decide +kernel
theorem dX9_loaf_104 : decode cX9_loaf 104 = .ok (.iconst (-1), 1) := by decide +kernel
theorem dX9_loaf_105 : decode cX9_loaf 105 = .ok (.ireturn, 1) := by decide +kernel
theorem dX9_becomes_0 : decode cX9_becomes 0 = .ok (.iload_n 1, 1) := by decide +kernel
theorem dX9_becomes_1 : decode cX9_becomes 1 = .ok (.invokestatic 165, 3) := by decide +kernel
theorem dX9_becomes_4 : decode cX9_becomes 4 = .ok (.ifCond .eq 11, 3) := by decide +kernel
theorem dX9_becomes_7 : decode cX9_becomes 7 = .ok (.iload_n 2, 1) := by decide +kernel
theorem dX9_becomes_8 : decode cX9_becomes 8 = .ok (.iload_n 3, 1) := by decide +kernel
theorem dX9_becomes_9 : decode cX9_becomes 9 = .ok (.invokestatic 168, 3) := by decide +kernel
theorem dX9_becomes_12 : decode cX9_becomes 12 = .ok (.ifCond .ne 5, 3) := by decide +kernel
theorem dX9_becomes_15 : decode cX9_becomes 15 = .ok (.iconst (-1), 1) := by decide +kernel
theorem dX9_becomes_16 : decode cX9_becomes 16 = .ok (.ireturn, 1) := by decide +kernel
theorem dX9_becomes_17 : decode cX9_becomes 17 = .ok (.aload_n 0, 1) := by decide +kernel
theorem dX9_becomes_18 : decode cX9_becomes 18 = .ok (.getfield 61, 3) := by decide +kernel
theorem dX9_becomes_21 : decode cX9_becomes 21 = .ok (.iload_n 1, 1) := by decide +kernel
theorem dX9_becomes_22 : decode cX9_becomes 22 = .ok (.iload_n 2, 1) := by decide +kernel
theorem dX9_becomes_23 : decode cX9_becomes 23 = .ok (.iload_n 3, 1) := by decide +kernel
theorem dX9_becomes_24 : decode cX9_becomes 24 = .ok (.invokevirtual 172, 3) := by decide +kernel
theorem dX9_becomes_27 : decode cX9_becomes 27 = .ok (.ireturn, 1) := by decide +kernel
theorem dX9_mayBe_0 : decode cX9_mayBe 0 = .ok (.iload_n 1, 1) := by decide +kernel
theorem dX9_mayBe_1 : decode cX9_mayBe 1 = .ok (.invokestatic 165, 3) := by decide +kernel
theorem dX9_mayBe_4 : decode cX9_mayBe 4 = .ok (.ifCond .eq 11, 3) := by decide +kernel
theorem dX9_mayBe_7 : decode cX9_mayBe 7 = .ok (.iload_n 2, 1) := by decide +kernel
theorem dX9_mayBe_8 : decode cX9_mayBe 8 = .ok (.iload_n 3, 1) := by decide +kernel
theorem dX9_mayBe_9 : decode cX9_mayBe 9 = .ok (.invokestatic 168, 3) := by decide +kernel
theorem dX9_mayBe_12 : decode cX9_mayBe 12 = .ok (.ifCond .ne 5, 3) := by decide +kernel
theorem dX9_mayBe_15 : decode cX9_mayBe 15 = .ok (.iconst (-1), 1) := by decide +kernel
theorem dX9_mayBe_16 : decode cX9_mayBe 16 = .ok (.ireturn, 1) := by decide +kernel
theorem dX9_mayBe_17 : decode cX9_mayBe 17 = .ok (.aload_n 0, 1) := by decide +kernel
theorem dX9_mayBe_18 : decode cX9_mayBe 18 = .ok (.getfield 45, 3) := by decide +kernel
theorem dX9_mayBe_21 : decode cX9_mayBe 21 = .ok (.aload_n 0, 1) := by decide +kernel
theorem dX9_mayBe_22 : decode cX9_mayBe 22 = .ok (.getfield 61, 3) := by decide +kernel
theorem dX9_mayBe_25 : decode cX9_mayBe 25 = .ok (.iload_n 1, 1) := by decide +kernel
theorem dX9_mayBe_26 : decode cX9_mayBe 26 = .ok (.iload_n 2, 1) := by decide +kernel
theorem dX9_mayBe_27 : decode cX9_mayBe 27 = .ok (.iload_n 3, 1) := by decide +kernel
theorem dX9_mayBe_28 : decode cX9_mayBe 28 = .ok (.invokevirtual 176, 3) := by decide +kernel
theorem dX9_mayBe_31 : decode cX9_mayBe 31 = .ok (.aload_n 0, 1) := by decide +kernel
theorem dX9_mayBe_32 : decode cX9_mayBe 32 = .ok (.getfield 45, 3) := by decide +kernel
theorem dX9_mayBe_35 : decode cX9_mayBe 35 = .ok (.iload_n 1, 1) := by decide +kernel
theorem dX9_mayBe_36 : decode cX9_mayBe 36 = .ok (.invokevirtual 180, 3) := by decide +kernel
theorem dX9_mayBe_39 : decode cX9_mayBe 39 = .ok (.ireturn, 1) := by decide +kernel
theorem dX9_can_0 : decode cX9_can 0 = .ok (.iload_n 1, 1) := by decide +kernel
theorem dX9_can_1 : decode cX9_can 1 = .ok (.invokestatic 165, 3) := by decide +kernel
theorem dX9_can_4 : decode cX9_can 4 = .ok (.ifCond .eq 19, 3) := by decide +kernel
theorem dX9_can_7 : decode cX9_can 7 = .ok (.iload_n 2, 1) := by decide +kernel
theorem dX9_can_8 : decode cX9_can 8 = .ok (.invokestatic 165, 3) := by decide +kernel
theorem dX9_can_11 : decode cX9_can 11 = .ok (.ifCond .eq 12, 3) := by decide +kernel
theorem dX9_can_14 : decode cX9_can 14 = .ok (.iload_n 3, 1) := by decide +kernel
theorem dX9_can_15 : decode cX9_can 15 = .ok (.iload 4, 2) := by decide +kernel
theorem dX9_can_17 : decode cX9_can 17 = .ok (.invokestatic 168, 3) := by decide +kernel
theorem dX9_can_20 : decode cX9_can 20 = .ok (.ifCond .ne 5, 3) := by decide +kernel
theorem dX9_can_23 : decode cX9_can 23 = .ok (.iconst (-1), 1) := by decide +kernel
theorem dX9_can_24 : decode cX9_can 24 = .ok (.ireturn, 1) := by decide +kernel
theorem dX9_can_25 : decode cX9_can 25 = .ok (.aload_n 0, 1) := by decide +kernel
theorem dX9_can_26 : decode cX9_can 26 = .ok (.getfield 45, 3) := by decide +kernel
theorem dX9_can_29 : decode cX9_can 29 = .ok (.aload_n 0, 1) := by decide +kernel
theorem dX9_can_30 : decode cX9_can 30 = .ok (.getfield 61, 3) := by decide +kernel
theorem dX9_can_33 : decode cX9_can 33 = .ok (.iload_n 1, 1) := by decide +kernel
theorem dX9_can_34 : decode cX9_can 34 = .ok (.iload_n 3, 1) := by decide +kernel
theorem dX9_can_35 : decode cX9_can 35 = .ok (.iload 4, 2) := by decide +kernel
theorem dX9_can_37 : decode cX9_can 37 = .ok (.invokevirtual 176, 3) := by decide +kernel
theorem dX9_can_40 : decode cX9_can 40 = .ok (.aload_n 0, 1) := by decide +kernel
theorem dX9_can_41 : decode cX9_can 41 = .ok (.getfield 45, 3) := by decide +kernel
theorem dX9_can_44 : decode cX9_can 44 = .ok (.iload_n 1, 1) := by decide +kernel
theorem dX9_can_45 : decode cX9_can 45 = .ok (.iload_n 2, 1) := by decide +kernel
theorem dX9_can_46 : decode cX9_can 46 = .ok (.invokevirtual 183, 3) := by decide +kernel
theorem dX9_can_49 : decode cX9_can 49 = .ok (.ifCond .eq 7, 3) := by decide +kernel
theorem dX9_can_52 : decode cX9_can 52 = .ok (.iconst 1, 1) := by decide +kernel
theorem dX9_can_53 : decode cX9_can 53 = .ok (.goto 4, 3) := by decide +kernel
theorem dX9_can_56 : decode cX9_can 56 = .ok (.iconst 0, 1) := by decide +kernel
theorem dX9_can_57 : decode cX9_can 57 = .ok (.ireturn, 1) := by decide +kernel
theorem dX9_was_0 : decode cX9_was 0 = .ok (.iload_n 1, 1) := by decide +kernel
theorem dX9_was_1 : decode cX9_was 1 = .ok (.invokestatic 165, 3) := by decide +kernel
theorem dX9_was_4 : decode cX9_was 4 = .ok (.ifCond .eq 11, 3) := by decide +kernel
theorem dX9_was_7 : decode cX9_was 7 = .ok (.iload_n 2, 1) := by decide +kernel
theorem dX9_was_8 : decode cX9_was 8 = .ok (.iload_n 3, 1) := by decide +kernel
theorem dX9_was_9 : decode cX9_was 9 = .ok (.invokestatic 168, 3) := by decide +kernel
theorem dX9_was_12 : decode cX9_was 12 = .ok (.ifCond .ne 5, 3) := by decide +kernel
theorem dX9_was_15 : decode cX9_was 15 = .ok (.iconst (-1), 1) := by decide +kernel
theorem dX9_was_16 : decode cX9_was 16 = .ok (.ireturn, 1) := by decide +kernel
theorem dX9_was_17 : decode cX9_was 17 = .ok (.iconst 0, 1) := by decide +kernel
theorem dX9_was_18 : decode cX9_was 18 = .ok (.istore 4, 2) := by decide +kernel
theorem dX9_was_20 : decode cX9_was 20 = .ok (.iconst 0, 1) := by decide +kernel
theorem dX9_was_21 : decode cX9_was 21 = .ok (.istore 5, 2) := by decide +kernel
theorem dX9_was_23 : decode cX9_was 23 = .ok (.iload 5, 2) := by decide +kernel
theorem dX9_was_25 : decode cX9_was 25 = .ok (.aload_n 0, 1) := by decide +kernel
theorem dX9_was_26 : decode cX9_was 26 = .ok (.getfield 61, 3) := by decide +kernel
theorem dX9_was_29 : decode cX9_was 29 = .ok (.invokevirtual 95, 3) := by decide +kernel
theorem dX9_was_32 : decode cX9_was 32 = .ok (.if_icmp .ge 60, 3) := by decide +kernel
theorem dX9_was_35 : decode cX9_was 35 = .ok (.aload_n 0, 1) := by decide +kernel
theorem dX9_was_36 : decode cX9_was 36 = .ok (.getfield 45, 3) := by decide +kernel
theorem dX9_was_39 : decode cX9_was 39 = .ok (.aload_n 0, 1) := by decide +kernel
theorem dX9_was_40 : decode cX9_was 40 = .ok (.getfield 61, 3) := by decide +kernel
theorem dX9_was_43 : decode cX9_was 43 = .ok (.aload_n 0, 1) := by decide +kernel
theorem dX9_was_44 : decode cX9_was 44 = .ok (.getfield 61, 3) := by decide +kernel
theorem dX9_was_47 : decode cX9_was 47 = .ok (.iload 5, 2) := by decide +kernel
theorem dX9_was_49 : decode cX9_was 49 = .ok (.invokevirtual 103, 3) := by decide +kernel
theorem dX9_was_52 : decode cX9_was 52 = .ok (.iload_n 2, 1) := by decide +kernel
theorem dX9_was_53 : decode cX9_was 53 = .ok (.iload_n 3, 1) := by decide +kernel
theorem dX9_was_54 : decode cX9_was 54 = .ok (.invokevirtual 176, 3) := by decide +kernel
theorem dX9_was_57 : decode cX9_was 57 = .ok (.aload_n 0, 1) := by decide +kernel
theorem dX9_was_58 : decode cX9_was 58 = .ok (.getfield 45, 3) := by decide +kernel
theorem dX9_was_61 : decode cX9_was 61 = .ok (.aload_n 0, 1) := by decide +kernel
theorem dX9_was_62 : decode cX9_was 62 = .ok (.getfield 61, 3) := by decide +kernel
theorem dX9_was_65 : decode cX9_was 65 = .ok (.iload 5, 2) := by decide +kernel
theorem dX9_was_67 : decode cX9_was 67 = .ok (.invokevirtual 103, 3) := by decide +kernel
theorem dX9_was_70 : decode cX9_was 70 = .ok (.iload_n 1, 1) := by decide +kernel
theorem dX9_was_71 : decode cX9_was 71 = .ok (.invokevirtual 183, 3) := by decide +kernel
theorem dX9_was_74 : decode cX9_was 74 = .ok (.ifCond .eq 12, 3) := by decide +kernel
theorem dX9_was_77 : decode cX9_was 77 = .ok (.iload 4, 2) := by decide +kernel
theorem dX9_was_79 : decode cX9_was 79 = .ok (.iconst 1, 1) := by decide +kernel
theorem dX9_was_80 : decode cX9_was 80 = .ok (.iload 5, 2) := by decide +kernel
theorem dX9_was_82 : decode cX9_was 82 = .ok (.ishl, 1) := by decide +kernel
theorem dX9_was_83 : decode cX9_was 83 = .ok (.ior, 1) := by decide +kernel
theorem dX9_was_84 : decode cX9_was 84 = .ok (.istore 4, 2) := by decide +kernel
theorem dX9_was_86 : decode cX9_was 86 = .ok (.iinc 5 1, 3) := by decide +kernel
theorem dX9_was_89 : decode cX9_was 89 = .ok (.goto (-66), 3) := by decide +kernel
theorem dX9_was_92 : decode cX9_was 92 = .ok (.iload 4, 2) := by decide +kernel
theorem dX9_was_94 : decode cX9_was 94 = .ok (.ireturn, 1) := by decide +kernel
theorem dX9_half_0 : decode cX9_half 0 = .ok (.iload_n 1, 1) := by decide +kernel
theorem dX9_half_1 : decode cX9_half 1 = .ok (.iconst 0, 1) := by decide +kernel
theorem dX9_half_2 : decode cX9_half 2 = .ok (.iconst 5, 1) := by decide +kernel
theorem dX9_half_3 : decode cX9_half 3 = .ok (.invokestatic 72, 3) := by decide +kernel
theorem dX9_half_6 : decode cX9_half 6 = .ok (.ifCond .eq 21, 3) := by decide +kernel
theorem dX9_half_9 : decode cX9_half 9 = .ok (.iload_n 2, 1) := by decide +kernel
theorem dX9_half_10 : decode cX9_half 10 = .ok (.iconst 0, 1) := by decide +kernel
theorem dX9_half_11 : decode cX9_half 11 = .ok (.iconst 3, 1) := by decide +kernel
theorem dX9_half_12 : decode cX9_half 12 = .ok (.invokestatic 72, 3) := by decide +kernel
theorem dX9_half_15 : decode cX9_half 15 = .ok (.ifCond .eq 12, 3) := by decide +kernel
theorem dX9_half_18 : decode cX9_half 18 = .ok (.iload_n 3, 1) := by decide +kernel
theorem dX9_half_19 : decode cX9_half 19 = .ok (.iconst 0, 1) := by decide +kernel
theorem dX9_half_20 : decode cX9_half 20 = .ok (.iconst 2, 1) := by decide +kernel
theorem dX9_half_21 : decode cX9_half 21 = .ok (.invokestatic 72, 3) := by decide +kernel
theorem dX9_half_24 : decode cX9_half 24 = .ok (.ifCond .ne 5, 3) := by decide +kernel
theorem dX9_half_27 : decode cX9_half 27 = .ok (.iconst (-1), 1) := by decide +kernel
theorem dX9_half_28 : decode cX9_half 28 = .ok (.ireturn, 1) := by decide +kernel
theorem dX9_half_29 : decode cX9_half 29 = .ok (.iconst 0, 1) := by decide +kernel
theorem dX9_half_30 : decode cX9_half 30 = .ok (.istore 4, 2) := by decide +kernel
theorem dX9_half_32 : decode cX9_half 32 = .ok (.iconst 0, 1) := by decide +kernel
theorem dX9_half_33 : decode cX9_half 33 = .ok (.istore 5, 2) := by decide +kernel
theorem dX9_half_35 : decode cX9_half 35 = .ok (.iload 5, 2) := by decide +kernel
theorem dX9_half_37 : decode cX9_half 37 = .ok (.aload_n 0, 1) := by decide +kernel
theorem dX9_half_38 : decode cX9_half 38 = .ok (.getfield 61, 3) := by decide +kernel
theorem dX9_half_41 : decode cX9_half 41 = .ok (.invokevirtual 95, 3) := by decide +kernel
theorem dX9_half_44 : decode cX9_half 44 = .ok (.if_icmp .ge 56, 3) := by decide +kernel
theorem dX9_half_47 : decode cX9_half 47 = .ok (.aload_n 0, 1) := by decide +kernel
theorem dX9_half_48 : decode cX9_half 48 = .ok (.getfield 61, 3) := by decide +kernel
theorem dX9_half_51 : decode cX9_half 51 = .ok (.iload 5, 2) := by decide +kernel
theorem dX9_half_53 : decode cX9_half 53 = .ok (.invokevirtual 103, 3) := by decide +kernel
theorem dX9_half_56 : decode cX9_half 56 = .ok (.istore 6, 2) := by decide +kernel
theorem dX9_half_58 : decode cX9_half 58 = .ok (.iload 6, 2) := by decide +kernel
theorem dX9_half_60 : decode cX9_half 60 = .ok (.invokestatic 185, 3) := by decide +kernel
theorem dX9_half_63 : decode cX9_half 63 = .ok (.iload_n 1, 1) := by decide +kernel
theorem dX9_half_64 : decode cX9_half 64 = .ok (.if_icmp .lt 30, 3) := by decide +kernel
theorem dX9_half_67 : decode cX9_half 67 = .ok (.iload 6, 2) := by decide +kernel
theorem dX9_half_69 : decode cX9_half 69 = .ok (.invokestatic 188, 3) := by decide +kernel
theorem dX9_half_72 : decode cX9_half 72 = .ok (.iload_n 2, 1) := by decide +kernel
theorem dX9_half_73 : decode cX9_half 73 = .ok (.if_icmp .lt 21, 3) := by decide +kernel
theorem dX9_half_76 : decode cX9_half 76 = .ok (.iload 6, 2) := by decide +kernel
theorem dX9_half_78 : decode cX9_half 78 = .ok (.invokestatic 191, 3) := by decide +kernel
theorem dX9_half_81 : decode cX9_half 81 = .ok (.iload_n 3, 1) := by decide +kernel
theorem dX9_half_82 : decode cX9_half 82 = .ok (.if_icmp .ne 12, 3) := by decide +kernel
theorem dX9_half_85 : decode cX9_half 85 = .ok (.iload 4, 2) := by decide +kernel
theorem dX9_half_87 : decode cX9_half 87 = .ok (.iconst 1, 1) := by decide +kernel
theorem dX9_half_88 : decode cX9_half 88 = .ok (.iload 5, 2) := by decide +kernel
theorem dX9_half_90 : decode cX9_half 90 = .ok (.ishl, 1) := by decide +kernel
theorem dX9_half_91 : decode cX9_half 91 = .ok (.ior, 1) := by decide +kernel
theorem dX9_half_92 : decode cX9_half 92 = .ok (.istore 4, 2) := by decide +kernel
theorem dX9_half_94 : decode cX9_half 94 = .ok (.iinc 5 1, 3) := by decide +kernel
theorem dX9_half_97 : decode cX9_half 97 = .ok (.goto (-62), 3) := by decide +kernel
theorem dX9_half_100 : decode cX9_half 100 = .ok (.iload 4, 2) := by decide +kernel
theorem dX9_half_102 : decode cX9_half 102 = .ok (.ireturn, 1) := by decide +kernel
theorem dX9_code_0 : decode cX9_code 0 = .ok (.iload_n 1, 1) := by decide +kernel
theorem dX9_code_1 : decode cX9_code 1 = .ok (.iconst 1, 1) := by decide +kernel
theorem dX9_code_2 : decode cX9_code 2 = .ok (.iconst 3, 1) := by decide +kernel
theorem dX9_code_3 : decode cX9_code 3 = .ok (.invokestatic 72, 3) := by decide +kernel
theorem dX9_code_6 : decode cX9_code 6 = .ok (.ifCond .eq 23, 3) := by decide +kernel
theorem dX9_code_9 : decode cX9_code 9 = .ok (.iload_n 2, 1) := by decide +kernel
theorem dX9_code_10 : decode cX9_code 10 = .ok (.iload_n 3, 1) := by decide +kernel
theorem dX9_code_11 : decode cX9_code 11 = .ok (.invokestatic 168, 3) := by decide +kernel
theorem dX9_code_14 : decode cX9_code 14 = .ok (.ifCond .eq 15, 3) := by decide +kernel
theorem dX9_code_17 : decode cX9_code 17 = .ok (.iload 4, 2) := by decide +kernel
theorem dX9_code_19 : decode cX9_code 19 = .ok (.iconst (-1), 1) := by decide +kernel
theorem dX9_code_20 : decode cX9_code 20 = .ok (.iload_n 1, 1) := by decide +kernel
theorem dX9_code_21 : decode cX9_code 21 = .ok (.iconst 1, 1) := by decide +kernel
theorem dX9_code_22 : decode cX9_code 22 = .ok (.isub, 1) := by decide +kernel
theorem dX9_code_23 : decode cX9_code 23 = .ok (.invokestatic 72, 3) := by decide +kernel
theorem dX9_code_26 : decode cX9_code 26 = .ok (.ifCond .ne 5, 3) := by decide +kernel
theorem dX9_code_29 : decode cX9_code 29 = .ok (.iconst (-1), 1) := by decide +kernel
theorem dX9_code_30 : decode cX9_code 30 = .ok (.ireturn, 1) := by decide +kernel
theorem dX9_code_31 : decode cX9_code 31 = .ok (.aload_n 0, 1) := by decide +kernel
theorem dX9_code_32 : decode cX9_code 32 = .ok (.getfield 54, 3) := by decide +kernel
theorem dX9_code_35 : decode cX9_code 35 = .ok (.aload_n 0, 1) := by decide +kernel
theorem dX9_code_36 : decode cX9_code 36 = .ok (.getfield 61, 3) := by decide +kernel
theorem dX9_code_39 : decode cX9_code 39 = .ok (.iload_n 1, 1) := by decide +kernel
theorem dX9_code_40 : decode cX9_code 40 = .ok (.iload_n 2, 1) := by decide +kernel
theorem dX9_code_41 : decode cX9_code 41 = .ok (.iload_n 3, 1) := by decide +kernel
theorem dX9_code_42 : decode cX9_code 42 = .ok (.invokevirtual 194, 3) := by decide +kernel
theorem dX9_code_45 : decode cX9_code 45 = .ok (.ifCond .ne 6, 3) := by decide +kernel
theorem dX9_code_48 : decode cX9_code 48 = .ok (.bipush (-4), 2) := by decide +kernel
theorem dX9_code_50 : decode cX9_code 50 = .ok (.ireturn, 1) := by decide +kernel
theorem dX9_code_51 : decode cX9_code 51 = .ok (.iload 4, 2) := by decide +kernel
theorem dX9_code_53 : decode cX9_code 53 = .ok (.iconst (-1), 1) := by decide +kernel
theorem dX9_code_54 : decode cX9_code 54 = .ok (.if_icmp .ne 13, 3) := by decide +kernel
theorem dX9_code_57 : decode cX9_code 57 = .ok (.aload_n 0, 1) := by decide +kernel
theorem dX9_code_58 : decode cX9_code 58 = .ok (.getfield 54, 3) := by decide +kernel
theorem dX9_code_61 : decode cX9_code 61 = .ok (.invokevirtual 198, 3) := by decide +kernel
theorem dX9_code_64 : decode cX9_code 64 = .ok (.goto 12, 3) := by decide +kernel
theorem dX9_code_67 : decode cX9_code 67 = .ok (.aload_n 0, 1) := by decide +kernel
theorem dX9_code_68 : decode cX9_code 68 = .ok (.getfield 54, 3) := by decide +kernel
theorem dX9_code_71 : decode cX9_code 71 = .ok (.iload 4, 2) := by decide +kernel
theorem dX9_code_73 : decode cX9_code 73 = .ok (.invokevirtual 201, 3) := by decide +kernel
theorem dX9_code_76 : decode cX9_code 76 = .ok (.ireturn, 1) := by decide +kernel
theorem dX9_sent_0 : decode cX9_sent 0 = .ok (.aload_n 0, 1) := by decide +kernel
theorem dX9_sent_1 : decode cX9_sent 1 = .ok (.iload_n 1, 1) := by decide +kernel
theorem dX9_sent_2 : decode cX9_sent 2 = .ok (.invokevirtual 100, 3) := by decide +kernel
theorem dX9_sent_5 : decode cX9_sent 5 = .ok (.ifCond .eq 26, 3) := by decide +kernel
theorem dX9_sent_8 : decode cX9_sent 8 = .ok (.aload_n 0, 1) := by decide +kernel
theorem dX9_sent_9 : decode cX9_sent 9 = .ok (.iload_n 2, 1) := by decide +kernel
theorem dX9_sent_10 : decode cX9_sent 10 = .ok (.invokevirtual 204, 3) := by decide +kernel
theorem dX9_sent_13 : decode cX9_sent 13 = .ok (.ifCond .eq 18, 3) := by decide +kernel
theorem dX9_sent_16 : decode cX9_sent 16 = .ok (.iload_n 3, 1) := by decide +kernel
theorem dX9_sent_17 : decode cX9_sent 17 = .ok (.invokestatic 207, 3) := by decide +kernel
theorem dX9_sent_20 : decode cX9_sent 20 = .ok (.ifCond .eq 11, 3) := by decide +kernel
theorem dX9_sent_23 : decode cX9_sent 23 = .ok (.iload 4, 2) := by decide +kernel
theorem dX9_sent_25 : decode cX9_sent 25 = .ok (.invokestatic 210, 3) := by decide +kernel
theorem dX9_sent_28 : decode cX9_sent 28 = .ok (.ifCond .ne 5, 3) := by decide +kernel
theorem dX9_sent_31 : decode cX9_sent 31 = .ok (.iconst (-1), 1) := by decide +kernel
theorem dX9_sent_32 : decode cX9_sent 32 = .ok (.ireturn, 1) := by decide +kernel
theorem dX9_sent_33 : decode cX9_sent 33 = .ok (.ldc2_w 213, 3) := by decide +kernel
theorem dX9_sent_36 : decode cX9_sent 36 = .ok (.aload_n 0, 1) := by decide +kernel
theorem dX9_sent_37 : decode cX9_sent 37 = .ok (.getfield 61, 3) := by decide +kernel
theorem dX9_sent_40 : decode cX9_sent 40 = .ok (.iload_n 2, 1) := by decide +kernel
theorem dX9_sent_41 : decode cX9_sent 41 = .ok (.invokevirtual 215, 3) := by decide +kernel
theorem dX9_sent_44 : decode cX9_sent 44 = .ok (.invokestatic 218, 3) := by decide +kernel
theorem dX9_sent_47 : decode cX9_sent 47 = .ok (.lstore 5, 2) := by decide +kernel
theorem dX9_sent_49 : decode cX9_sent 49 = .ok (.aload_n 0, 1) := by decide +kernel
theorem dX9_sent_50 : decode cX9_sent 50 = .ok (.getfield 61, 3) := by decide +kernel
theorem dX9_sent_53 : decode cX9_sent 53 = .ok (.iload_n 1, 1) := by decide +kernel
theorem dX9_sent_54 : decode cX9_sent 54 = .ok (.iload_n 2, 1) := by decide +kernel
theorem dX9_sent_55 : decode cX9_sent 55 = .ok (.iload_n 3, 1) := by decide +kernel
theorem dX9_sent_56 : decode cX9_sent 56 = .ok (.invokevirtual 224, 3) := by decide +kernel
theorem dX9_sent_59 : decode cX9_sent 59 = .ok (.lload 5, 2) := by decide +kernel
theorem dX9_sent_61 : decode cX9_sent 61 = .ok (.iload 4, 2) := by decide +kernel
theorem dX9_sent_63 : decode cX9_sent 63 = .ok (.invokestatic 228, 3) := by decide +kernel
theorem dX9_sent_66 : decode cX9_sent 66 = .ok (.l2i, 1) := by decide +kernel
theorem dX9_sent_67 : decode cX9_sent 67 = .ok (.ireturn, 1) := by decide +kernel
theorem dX9_whom_0 : decode cX9_whom 0 = .ok (.aload_n 0, 1) := by decide +kernel
theorem dX9_whom_1 : decode cX9_whom 1 = .ok (.iload_n 1, 1) := by decide +kernel
theorem dX9_whom_2 : decode cX9_whom 2 = .ok (.invokevirtual 100, 3) := by decide +kernel
theorem dX9_whom_5 : decode cX9_whom 5 = .ok (.ifCond .eq 10, 3) := by decide +kernel
theorem dX9_whom_8 : decode cX9_whom 8 = .ok (.iload_n 2, 1) := by decide +kernel
theorem dX9_whom_9 : decode cX9_whom 9 = .ok (.invokestatic 207, 3) := by decide +kernel
theorem dX9_whom_12 : decode cX9_whom 12 = .ok (.ifCond .ne 5, 3) := by decide +kernel
theorem dX9_whom_15 : decode cX9_whom 15 = .ok (.iconst (-1), 1) := by decide +kernel
theorem dX9_whom_16 : decode cX9_whom 16 = .ok (.ireturn, 1) := by decide +kernel
theorem dX9_whom_17 : decode cX9_whom 17 = .ok (.bipush (-4), 2) := by decide +kernel
theorem dX9_whom_19 : decode cX9_whom 19 = .ok (.istore_n 3, 1) := by decide +kernel
theorem dX9_whom_20 : decode cX9_whom 20 = .ok (.ldc2_w 232, 3) := by decide +kernel
theorem dX9_whom_23 : decode cX9_whom 23 = .ok (.lstore 4, 2) := by decide +kernel
theorem dX9_whom_25 : decode cX9_whom 25 = .ok (.iconst 0, 1) := by decide +kernel
theorem dX9_whom_26 : decode cX9_whom 26 = .ok (.istore 6, 2) := by decide +kernel
theorem dX9_whom_28 : decode cX9_whom 28 = .ok (.iload 6, 2) := by decide +kernel
theorem dX9_whom_30 : decode cX9_whom 30 = .ok (.aload_n 0, 1) := by decide +kernel
theorem dX9_whom_31 : decode cX9_whom 31 = .ok (.getfield 61, 3) := by decide +kernel
theorem dX9_whom_34 : decode cX9_whom 34 = .ok (.invokevirtual 234, 3) := by decide +kernel
theorem dX9_whom_37 : decode cX9_whom 37 = .ok (.if_icmp .ge 60, 3) := by decide +kernel
theorem dX9_whom_40 : decode cX9_whom 40 = .ok (.ldc2_w 213, 3) := by decide +kernel
theorem dX9_whom_43 : decode cX9_whom 43 = .ok (.bipush 6, 2) := by decide +kernel
theorem dX9_whom_45 : decode cX9_whom 45 = .ok (.aload_n 0, 1) := by decide +kernel
theorem dX9_whom_46 : decode cX9_whom 46 = .ok (.getfield 61, 3) := by decide +kernel
theorem dX9_whom_49 : decode cX9_whom 49 = .ok (.iload 6, 2) := by decide +kernel
theorem dX9_whom_51 : decode cX9_whom 51 = .ok (.invokevirtual 215, 3) := by decide +kernel
theorem dX9_whom_54 : decode cX9_whom 54 = .ok (.isub, 1) := by decide +kernel
theorem dX9_whom_55 : decode cX9_whom 55 = .ok (.invokestatic 218, 3) := by decide +kernel
theorem dX9_whom_58 : decode cX9_whom 58 = .ok (.lstore 7, 2) := by decide +kernel
theorem dX9_whom_60 : decode cX9_whom 60 = .ok (.aload_n 0, 1) := by decide +kernel
theorem dX9_whom_61 : decode cX9_whom 61 = .ok (.getfield 61, 3) := by decide +kernel
theorem dX9_whom_64 : decode cX9_whom 64 = .ok (.iload_n 1, 1) := by decide +kernel
theorem dX9_whom_65 : decode cX9_whom 65 = .ok (.iload 6, 2) := by decide +kernel
theorem dX9_whom_67 : decode cX9_whom 67 = .ok (.iload_n 2, 1) := by decide +kernel
theorem dX9_whom_68 : decode cX9_whom 68 = .ok (.invokevirtual 224, 3) := by decide +kernel
theorem dX9_whom_71 : decode cX9_whom 71 = .ok (.lload 7, 2) := by decide +kernel
theorem dX9_whom_73 : decode cX9_whom 73 = .ok (.lmul, 1) := by decide +kernel
theorem dX9_whom_74 : decode cX9_whom 74 = .ok (.lstore 9, 2) := by decide +kernel
theorem dX9_whom_76 : decode cX9_whom 76 = .ok (.lload 9, 2) := by decide +kernel
theorem dX9_whom_78 : decode cX9_whom 78 = .ok (.lload 4, 2) := by decide +kernel
theorem dX9_whom_80 : decode cX9_whom 80 = .ok (.lcmp, 1) := by decide +kernel
theorem dX9_whom_81 : decode cX9_whom 81 = .ok (.ifCond .le 10, 3) := by decide +kernel
theorem dX9_whom_84 : decode cX9_whom 84 = .ok (.lload 9, 2) := by decide +kernel
theorem dX9_whom_86 : decode cX9_whom 86 = .ok (.lstore 4, 2) := by decide +kernel
theorem dX9_whom_88 : decode cX9_whom 88 = .ok (.iload 6, 2) := by decide +kernel
theorem dX9_whom_90 : decode cX9_whom 90 = .ok (.istore_n 3, 1) := by decide +kernel
theorem dX9_whom_91 : decode cX9_whom 91 = .ok (.iinc 6 1, 3) := by decide +kernel
theorem dX9_whom_94 : decode cX9_whom 94 = .ok (.goto (-66), 3) := by decide +kernel
theorem dX9_whom_97 : decode cX9_whom 97 = .ok (.iload_n 3, 1) := by decide +kernel
theorem dX9_whom_98 : decode cX9_whom 98 = .ok (.ireturn, 1) := by decide +kernel
theorem dX9_two_0 : decode cX9_two 0 = .ok (.aload_n 0, 1) := by decide +kernel
theorem dX9_two_1 : decode cX9_two 1 = .ok (.iload_n 1, 1) := by decide +kernel
theorem dX9_two_2 : decode cX9_two 2 = .ok (.invokevirtual 100, 3) := by decide +kernel
theorem dX9_two_5 : decode cX9_two 5 = .ok (.ifCond .eq 40, 3) := by decide +kernel
theorem dX9_two_8 : decode cX9_two 8 = .ok (.aload_n 0, 1) := by decide +kernel
theorem dX9_two_9 : decode cX9_two 9 = .ok (.iload_n 2, 1) := by decide +kernel
theorem dX9_two_10 : decode cX9_two 10 = .ok (.invokevirtual 204, 3) := by decide +kernel
theorem dX9_two_13 : decode cX9_two 13 = .ok (.ifCond .eq 32, 3) := by decide +kernel
theorem dX9_two_16 : decode cX9_two 16 = .ok (.aload_n 0, 1) := by decide +kernel
theorem dX9_two_17 : decode cX9_two 17 = .ok (.iload_n 3, 1) := by decide +kernel
theorem dX9_two_18 : decode cX9_two 18 = .ok (.invokevirtual 204, 3) := by decide +kernel
theorem dX9_two_21 : decode cX9_two 21 = .ok (.ifCond .eq 24, 3) := by decide +kernel
theorem dX9_two_24 : decode cX9_two 24 = .ok (.iload_n 2, 1) := by decide +kernel
theorem dX9_two_25 : decode cX9_two 25 = .ok (.iload_n 3, 1) := by decide +kernel
theorem dX9_two_26 : decode cX9_two 26 = .ok (.if_icmp .eq 19, 3) := by decide +kernel
theorem dX9_two_29 : decode cX9_two 29 = .ok (.iload 4, 2) := by decide +kernel
theorem dX9_two_31 : decode cX9_two 31 = .ok (.invokestatic 207, 3) := by decide +kernel
theorem dX9_two_34 : decode cX9_two 34 = .ok (.ifCond .eq 11, 3) := by decide +kernel
theorem dX9_two_37 : decode cX9_two 37 = .ok (.iload 5, 2) := by decide +kernel
theorem dX9_two_39 : decode cX9_two 39 = .ok (.invokestatic 210, 3) := by decide +kernel
theorem dX9_two_42 : decode cX9_two 42 = .ok (.ifCond .ne 7, 3) := by decide +kernel
theorem dX9_two_45 : decode cX9_two 45 = .ok (.ldc2_w 232, 3) := by decide +kernel
theorem dX9_two_48 : decode cX9_two 48 = .ok (.lreturn, 1) := by decide +kernel
theorem dX9_two_49 : decode cX9_two 49 = .ok (.ldc2_w 213, 3) := by decide +kernel
theorem dX9_two_52 : decode cX9_two 52 = .ok (.aload_n 0, 1) := by decide +kernel
theorem dX9_two_53 : decode cX9_two 53 = .ok (.getfield 61, 3) := by decide +kernel
theorem dX9_two_56 : decode cX9_two 56 = .ok (.iload_n 2, 1) := by decide +kernel
theorem dX9_two_57 : decode cX9_two 57 = .ok (.invokevirtual 215, 3) := by decide +kernel
theorem dX9_two_60 : decode cX9_two 60 = .ok (.invokestatic 218, 3) := by decide +kernel
theorem dX9_two_63 : decode cX9_two 63 = .ok (.lstore 6, 2) := by decide +kernel
theorem dX9_two_65 : decode cX9_two 65 = .ok (.ldc2_w 213, 3) := by decide +kernel
theorem dX9_two_68 : decode cX9_two 68 = .ok (.aload_n 0, 1) := by decide +kernel
theorem dX9_two_69 : decode cX9_two 69 = .ok (.getfield 61, 3) := by decide +kernel
theorem dX9_two_72 : decode cX9_two 72 = .ok (.iload_n 3, 1) := by decide +kernel
theorem dX9_two_73 : decode cX9_two 73 = .ok (.invokevirtual 215, 3) := by decide +kernel
theorem dX9_two_76 : decode cX9_two 76 = .ok (.invokestatic 218, 3) := by decide +kernel
theorem dX9_two_79 : decode cX9_two 79 = .ok (.lstore 8, 2) := by decide +kernel
theorem dX9_two_81 : decode cX9_two 81 = .ok (.lload 6, 2) := by decide +kernel
theorem dX9_two_83 : decode cX9_two 83 = .ok (.aload_n 0, 1) := by decide +kernel
theorem dX9_two_84 : decode cX9_two 84 = .ok (.getfield 61, 3) := by decide +kernel
theorem dX9_two_87 : decode cX9_two 87 = .ok (.iload_n 1, 1) := by decide +kernel
theorem dX9_two_88 : decode cX9_two 88 = .ok (.iload_n 2, 1) := by decide +kernel
theorem dX9_two_89 : decode cX9_two 89 = .ok (.iload 4, 2) := by decide +kernel
theorem dX9_two_91 : decode cX9_two 91 = .ok (.invokevirtual 224, 3) := by decide +kernel
theorem dX9_two_94 : decode cX9_two 94 = .ok (.lsub, 1) := by decide +kernel
theorem dX9_two_95 : decode cX9_two 95 = .ok (.lload 8, 2) := by decide +kernel
theorem dX9_two_97 : decode cX9_two 97 = .ok (.aload_n 0, 1) := by decide +kernel
theorem dX9_two_98 : decode cX9_two 98 = .ok (.getfield 61, 3) := by decide +kernel
theorem dX9_two_101 : decode cX9_two 101 = .ok (.iload_n 1, 1) := by decide +kernel
theorem dX9_two_102 : decode cX9_two 102 = .ok (.iload_n 3, 1) := by decide +kernel
theorem dX9_two_103 : decode cX9_two 103 = .ok (.iload 4, 2) := by decide +kernel
theorem dX9_two_105 : decode cX9_two 105 = .ok (.invokevirtual 224, 3) := by decide +kernel
theorem dX9_two_108 : decode cX9_two 108 = .ok (.lsub, 1) := by decide +kernel
theorem dX9_two_109 : decode cX9_two 109 = .ok (.lmul, 1) := by decide +kernel
theorem dX9_two_110 : decode cX9_two 110 = .ok (.lstore 10, 2) := by decide +kernel
theorem dX9_two_112 : decode cX9_two 112 = .ok (.lload 6, 2) := by decide +kernel
theorem dX9_two_114 : decode cX9_two 114 = .ok (.lload 8, 2) := by decide +kernel
theorem dX9_two_116 : decode cX9_two 116 = .ok (.lmul, 1) := by decide +kernel
theorem dX9_two_117 : decode cX9_two 117 = .ok (.lstore 12, 2) := by decide +kernel
theorem dX9_two_119 : decode cX9_two 119 = .ok (.lload 12, 2) := by decide +kernel
theorem dX9_two_121 : decode cX9_two 121 = .ok (.lload 10, 2) := by decide +kernel
theorem dX9_two_123 : decode cX9_two 123 = .ok (.lsub, 1) := by decide +kernel
theorem dX9_two_124 : decode cX9_two 124 = .ok (.lload 12, 2) := by decide +kernel
theorem dX9_two_126 : decode cX9_two 126 = .ok (.iload 5, 2) := by decide +kernel
theorem dX9_two_128 : decode cX9_two 128 = .ok (.invokestatic 228, 3) := by decide +kernel
theorem dX9_two_131 : decode cX9_two 131 = .ok (.lreturn, 1) := by decide +kernel
theorem dX9_said_0 : decode cX9_said 0 = .ok (.iload_n 1, 1) := by decide +kernel
theorem dX9_said_1 : decode cX9_said 1 = .ok (.iconst 0, 1) := by decide +kernel
theorem dX9_said_2 : decode cX9_said 2 = .ok (.bipush 99, 2) := by decide +kernel
theorem dX9_said_4 : decode cX9_said 4 = .ok (.invokestatic 72, 3) := by decide +kernel
theorem dX9_said_7 : decode cX9_said 7 = .ok (.ifCond .eq 10, 3) := by decide +kernel
theorem dX9_said_10 : decode cX9_said 10 = .ok (.iload_n 2, 1) := by decide +kernel
theorem dX9_said_11 : decode cX9_said 11 = .ok (.invokestatic 210, 3) := by decide +kernel
theorem dX9_said_14 : decode cX9_said 14 = .ok (.ifCond .ne 5, 3) := by decide +kernel
theorem dX9_said_17 : decode cX9_said 17 = .ok (.iconst (-1), 1) := by decide +kernel
theorem dX9_said_18 : decode cX9_said 18 = .ok (.ireturn, 1) := by decide +kernel
theorem dX9_said_19 : decode cX9_said 19 = .ok (.iconst 0, 1) := by decide +kernel
theorem dX9_said_20 : decode cX9_said 20 = .ok (.istore_n 3, 1) := by decide +kernel
theorem dX9_said_21 : decode cX9_said 21 = .ok (.iconst 0, 1) := by decide +kernel
theorem dX9_said_22 : decode cX9_said 22 = .ok (.istore 4, 2) := by decide +kernel
theorem dX9_said_24 : decode cX9_said 24 = .ok (.iconst 1, 1) := by decide +kernel
theorem dX9_said_25 : decode cX9_said 25 = .ok (.istore 5, 2) := by decide +kernel
theorem dX9_said_27 : decode cX9_said 27 = .ok (.iload 5, 2) := by decide +kernel
theorem dX9_said_29 : decode cX9_said 29 = .ok (.iconst 1, 1) := by decide +kernel
theorem dX9_said_30 : decode cX9_said 30 = .ok (.aload_n 0, 1) := by decide +kernel
theorem dX9_said_31 : decode cX9_said 31 = .ok (.getfield 61, 3) := by decide +kernel
theorem dX9_said_34 : decode cX9_said 34 = .ok (.invokevirtual 95, 3) := by decide +kernel
theorem dX9_said_37 : decode cX9_said 37 = .ok (.ishl, 1) := by decide +kernel
theorem dX9_said_38 : decode cX9_said 38 = .ok (.if_icmp .ge 47, 3) := by decide +kernel
theorem dX9_said_41 : decode cX9_said 41 = .ok (.aload_n 0, 1) := by decide +kernel
theorem dX9_said_42 : decode cX9_said 42 = .ok (.getfield 61, 3) := by decide +kernel
theorem dX9_said_45 : decode cX9_said 45 = .ok (.iload 5, 2) := by decide +kernel
theorem dX9_said_47 : decode cX9_said 47 = .ok (.invokevirtual 237, 3) := by decide +kernel
theorem dX9_said_50 : decode cX9_said 50 = .ok (.istore 6, 2) := by decide +kernel
theorem dX9_said_52 : decode cX9_said 52 = .ok (.iload 6, 2) := by decide +kernel
theorem dX9_said_54 : decode cX9_said 54 = .ok (.iload 4, 2) := by decide +kernel
theorem dX9_said_56 : decode cX9_said 56 = .ok (.if_icmp .le 23, 3) := by decide +kernel
theorem dX9_said_59 : decode cX9_said 59 = .ok (.aload_n 0, 1) := by decide +kernel
theorem dX9_said_60 : decode cX9_said 60 = .ok (.getfield 61, 3) := by decide +kernel
theorem dX9_said_63 : decode cX9_said 63 = .ok (.iload 5, 2) := by decide +kernel
theorem dX9_said_65 : decode cX9_said 65 = .ok (.invokevirtual 240, 3) := by decide +kernel
theorem dX9_said_68 : decode cX9_said 68 = .ok (.iload_n 1, 1) := by decide +kernel
theorem dX9_said_69 : decode cX9_said 69 = .ok (.if_icmp .gt 10, 3) := by decide +kernel
theorem dX9_said_72 : decode cX9_said 72 = .ok (.iload 6, 2) := by decide +kernel
theorem dX9_said_74 : decode cX9_said 74 = .ok (.istore 4, 2) := by decide +kernel
theorem dX9_said_76 : decode cX9_said 76 = .ok (.iload 5, 2) := by decide +kernel
theorem dX9_said_78 : decode cX9_said 78 = .ok (.istore_n 3, 1) := by decide +kernel
theorem dX9_said_79 : decode cX9_said 79 = .ok (.iinc 5 1, 3) := by decide +kernel
theorem dX9_said_82 : decode cX9_said 82 = .ok (.goto (-55), 3) := by decide +kernel
theorem dX9_said_85 : decode cX9_said 85 = .ok (.iload_n 2, 1) := by decide +kernel
theorem dX9_said_86 : decode cX9_said 86 = .ok (.ifCond .ne 7, 3) := by decide +kernel
theorem dX9_said_89 : decode cX9_said 89 = .ok (.iload_n 3, 1) := by decide +kernel
theorem dX9_said_90 : decode cX9_said 90 = .ok (.goto 5, 3) := by decide +kernel
theorem dX9_said_93 : decode cX9_said 93 = .ok (.iload 4, 2) := by decide +kernel
theorem dX9_said_95 : decode cX9_said 95 = .ok (.ireturn, 1) := by decide +kernel
theorem dX9_told_0 : decode cX9_told 0 = .ok (.iload_n 1, 1) := by decide +kernel
theorem dX9_told_1 : decode cX9_told 1 = .ok (.iconst 0, 1) := by decide +kernel
theorem dX9_told_2 : decode cX9_told 2 = .ok (.bipush 63, 2) := by decide +kernel
theorem dX9_told_4 : decode cX9_told 4 = .ok (.invokestatic 72, 3) := by decide +kernel
theorem dX9_told_7 : decode cX9_told 7 = .ok (.ifCond .eq 10, 3) := by decide +kernel
theorem dX9_told_10 : decode cX9_told 10 = .ok (.iload_n 2, 1) := by decide +kernel
theorem dX9_told_11 : decode cX9_told 11 = .ok (.invokestatic 210, 3) := by decide +kernel
theorem dX9_told_14 : decode cX9_told 14 = .ok (.ifCond .ne 5, 3) := by decide +kernel
theorem dX9_told_17 : decode cX9_told 17 = .ok (.iconst (-1), 1) := by decide +kernel
theorem dX9_told_18 : decode cX9_told 18 = .ok (.ireturn, 1) := by decide +kernel
theorem dX9_told_19 : decode cX9_told 19 = .ok (.aload_n 0, 1) := by decide +kernel
theorem dX9_told_20 : decode cX9_told 20 = .ok (.getfield 61, 3) := by decide +kernel
theorem dX9_told_23 : decode cX9_told 23 = .ok (.iload_n 1, 1) := by decide +kernel
theorem dX9_told_24 : decode cX9_told 24 = .ok (.invokevirtual 243, 3) := by decide +kernel
theorem dX9_told_27 : decode cX9_told 27 = .ok (.istore_n 3, 1) := by decide +kernel
theorem dX9_told_28 : decode cX9_told 28 = .ok (.iload_n 2, 1) := by decide +kernel
theorem dX9_told_29 : decode cX9_told 29 = .ok (.ifCond .ne 5, 3) := by decide +kernel
theorem dX9_told_32 : decode cX9_told 32 = .ok (.iload_n 3, 1) := by decide +kernel
theorem dX9_told_33 : decode cX9_told 33 = .ok (.ireturn, 1) := by decide +kernel
theorem dX9_told_34 : decode cX9_told 34 = .ok (.iload_n 3, 1) := by decide +kernel
theorem dX9_told_35 : decode cX9_told 35 = .ok (.invokestatic 246, 3) := by decide +kernel
theorem dX9_told_38 : decode cX9_told 38 = .ok (.iconst 1, 1) := by decide +kernel
theorem dX9_told_39 : decode cX9_told 39 = .ok (.if_icmp .ne 10, 3) := by decide +kernel
theorem dX9_told_42 : decode cX9_told 42 = .ok (.iload_n 3, 1) := by decide +kernel
theorem dX9_told_43 : decode cX9_told 43 = .ok (.invokestatic 251, 3) := by decide +kernel
theorem dX9_told_46 : decode cX9_told 46 = .ok (.goto 5, 3) := by decide +kernel
theorem dX9_told_49 : decode cX9_told 49 = .ok (.bipush (-4), 2) := by decide +kernel
theorem dX9_told_51 : decode cX9_told 51 = .ok (.ireturn, 1) := by decide +kernel
theorem dX9_month_0 : decode cX9_month 0 = .ok (.iload_n 1, 1) := by decide +kernel
theorem dX9_month_1 : decode cX9_month 1 = .ok (.iconst 0, 1) := by decide +kernel
theorem dX9_month_2 : decode cX9_month 2 = .ok (.sipush 9999, 3) := by decide +kernel
theorem dX9_month_5 : decode cX9_month 5 = .ok (.invokestatic 72, 3) := by decide +kernel
theorem dX9_month_8 : decode cX9_month 8 = .ok (.ifCond .eq 20, 3) := by decide +kernel
theorem dX9_month_11 : decode cX9_month 11 = .ok (.iload_n 2, 1) := by decide +kernel
theorem dX9_month_12 : decode cX9_month 12 = .ok (.iconst 1, 1) := by decide +kernel
theorem dX9_month_13 : decode cX9_month 13 = .ok (.bipush 30, 2) := by decide +kernel
theorem dX9_month_15 : decode cX9_month 15 = .ok (.invokestatic 72, 3) := by decide +kernel
theorem dX9_month_18 : decode cX9_month 18 = .ok (.ifCond .eq 10, 3) := by decide +kernel
theorem dX9_month_21 : decode cX9_month 21 = .ok (.iload_n 3, 1) := by decide +kernel
theorem dX9_month_22 : decode cX9_month 22 = .ok (.invokestatic 210, 3) := by decide +kernel
theorem dX9_month_25 : decode cX9_month 25 = .ok (.ifCond .ne 5, 3) := by decide +kernel
theorem dX9_month_28 : decode cX9_month 28 = .ok (.iconst (-1), 1) := by decide +kernel
theorem dX9_month_29 : decode cX9_month 29 = .ok (.ireturn, 1) := by decide +kernel
theorem dX9_month_30 : decode cX9_month 30 = .ok (.aload_n 0, 1) := by decide +kernel
theorem dX9_month_31 : decode cX9_month 31 = .ok (.getfield 61, 3) := by decide +kernel
theorem dX9_month_34 : decode cX9_month 34 = .ok (.invokevirtual 95, 3) := by decide +kernel
theorem dX9_month_37 : decode cX9_month 37 = .ok (.istore 4, 2) := by decide +kernel
theorem dX9_month_39 : decode cX9_month 39 = .ok (.iconst 0, 1) := by decide +kernel
theorem dX9_month_40 : decode cX9_month 40 = .ok (.istore 5, 2) := by decide +kernel
theorem dX9_month_42 : decode cX9_month 42 = .ok (.iconst 0, 1) := by decide +kernel
theorem dX9_month_43 : decode cX9_month 43 = .ok (.istore 6, 2) := by decide +kernel
theorem dX9_month_45 : decode cX9_month 45 = .ok (.iload 6, 2) := by decide +kernel
theorem dX9_month_47 : decode cX9_month 47 = .ok (.iload_n 2, 1) := by decide +kernel
theorem dX9_month_48 : decode cX9_month 48 = .ok (.if_icmp .ge 105, 3) := by decide +kernel
theorem dX9_month_51 : decode cX9_month 51 = .ok (.iload_n 1, 1) := by decide +kernel
theorem dX9_month_52 : decode cX9_month 52 = .ok (.iload 6, 2) := by decide +kernel
theorem dX9_month_54 : decode cX9_month 54 = .ok (.invokestatic 254, 3) := by decide +kernel
theorem dX9_month_57 : decode cX9_month 57 = .ok (.istore 7, 2) := by decide +kernel
theorem dX9_month_59 : decode cX9_month 59 = .ok (.iload 4, 2) := by decide +kernel
theorem dX9_month_61 : decode cX9_month 61 = .ok (.ifCond .le 11, 3) := by decide +kernel
theorem dX9_month_64 : decode cX9_month 64 = .ok (.iload 7, 2) := by decide +kernel
theorem dX9_month_66 : decode cX9_month 66 = .ok (.iload 4, 2) := by decide +kernel
theorem dX9_month_68 : decode cX9_month 68 = .ok (.irem, 1) := by decide +kernel
theorem dX9_month_69 : decode cX9_month 69 = .ok (.goto 4, 3) := by decide +kernel
theorem dX9_month_72 : decode cX9_month 72 = .ok (.iconst 0, 1) := by decide +kernel
theorem dX9_month_73 : decode cX9_month 73 = .ok (.istore 8, 2) := by decide +kernel
theorem dX9_month_75 : decode cX9_month 75 = .ok (.aload_n 0, 1) := by decide +kernel
theorem dX9_month_76 : decode cX9_month 76 = .ok (.getfield 61, 3) := by decide +kernel
theorem dX9_month_79 : decode cX9_month 79 = .ok (.aload_n 0, 1) := by decide +kernel
theorem dX9_month_80 : decode cX9_month 80 = .ok (.getfield 61, 3) := by decide +kernel
theorem dX9_month_83 : decode cX9_month 83 = .ok (.aload_n 0, 1) := by decide +kernel
theorem dX9_month_84 : decode cX9_month 84 = .ok (.getfield 61, 3) := by decide +kernel
theorem dX9_month_87 : decode cX9_month 87 = .ok (.iload 8, 2) := by decide +kernel
theorem dX9_month_89 : decode cX9_month 89 = .ok (.invokevirtual 103, 3) := by decide +kernel
theorem dX9_month_92 : decode cX9_month 92 = .ok (.iload 7, 2) := by decide +kernel
theorem dX9_month_94 : decode cX9_month 94 = .ok (.bipush 16, 2) := by decide +kernel
theorem dX9_month_96 : decode cX9_month 96 = .ok (.idiv, 1) := by decide +kernel
theorem dX9_month_97 : decode cX9_month 97 = .ok (.bipush 7, 2) := by decide +kernel
theorem dX9_month_99 : decode cX9_month 99 = .ok (.irem, 1) := by decide +kernel
theorem dX9_month_100 : decode cX9_month 100 = .ok (.iload 7, 2) := by decide +kernel
theorem dX9_month_102 : decode cX9_month 102 = .ok (.sipush 256, 3) := by decide +kernel
theorem dX9_month_105 : decode cX9_month 105 = .ok (.idiv, 1) := by decide +kernel
theorem dX9_month_106 : decode cX9_month 106 = .ok (.iconst 3, 1) := by decide +kernel
theorem dX9_month_107 : decode cX9_month 107 = .ok (.irem, 1) := by decide +kernel
theorem dX9_month_108 : decode cX9_month 108 = .ok (.invokevirtual 172, 3) := by decide +kernel
theorem dX9_month_111 : decode cX9_month 111 = .ok (.invokevirtual 257, 3) := by decide +kernel
theorem dX9_month_114 : decode cX9_month 114 = .ok (.istore 9, 2) := by decide +kernel
theorem dX9_month_116 : decode cX9_month 116 = .ok (.iload_n 3, 1) := by decide +kernel
theorem dX9_month_117 : decode cX9_month 117 = .ok (.ifCond .ne 13, 3) := by decide +kernel
theorem dX9_month_120 : decode cX9_month 120 = .ok (.iload 9, 2) := by decide +kernel
theorem dX9_month_122 : decode cX9_month 122 = .ok (.iload 8, 2) := by decide +kernel
theorem dX9_month_124 : decode cX9_month 124 = .ok (.if_icmp .ne 23, 3) := by decide +kernel
theorem dX9_month_127 : decode cX9_month 127 = .ok (.goto 17, 3) := by decide +kernel
theorem dX9_month_130 : decode cX9_month 130 = .ok (.iload 9, 2) := by decide +kernel
theorem dX9_month_132 : decode cX9_month 132 = .ok (.iload 8, 2) := by decide +kernel
theorem dX9_month_134 : decode cX9_month 134 = .ok (.if_icmp .eq 13, 3) := by decide +kernel
theorem dX9_month_137 : decode cX9_month 137 = .ok (.iload 9, 2) := by decide +kernel
theorem dX9_month_139 : decode cX9_month 139 = .ok (.bipush (-4), 2) := by decide +kernel
theorem dX9_month_141 : decode cX9_month 141 = .ok (.if_icmp .eq 6, 3) := by decide +kernel
theorem dX9_month_144 : decode cX9_month 144 = .ok (.iinc 5 1, 3) := by decide +kernel
theorem dX9_month_147 : decode cX9_month 147 = .ok (.iinc 6 1, 3) := by decide +kernel
theorem dX9_month_150 : decode cX9_month 150 = .ok (.goto (-105), 3) := by decide +kernel
theorem dX9_month_153 : decode cX9_month 153 = .ok (.iload 5, 2) := by decide +kernel
theorem dX9_month_155 : decode cX9_month 155 = .ok (.ireturn, 1) := by decide +kernel
theorem dX9_keep_0 : decode cX9_keep 0 = .ok (.aload_n 0, 1) := by decide +kernel
theorem dX9_keep_1 : decode cX9_keep 1 = .ok (.getfield 39, 3) := by decide +kernel
theorem dX9_keep_4 : decode cX9_keep 4 = .ok (.invokevirtual 260, 3) := by decide +kernel
theorem dX9_keep_7 : decode cX9_keep 7 = .ok (.ifCond .eq 6, 3) := by decide +kernel
theorem dX9_keep_10 : decode cX9_keep 10 = .ok (.bipush (-3), 2) := by decide +kernel
theorem dX9_keep_12 : decode cX9_keep 12 = .ok (.ireturn, 1) := by decide +kernel
theorem dX9_keep_13 : decode cX9_keep 13 = .ok (.aload_n 0, 1) := by decide +kernel
theorem dX9_keep_14 : decode cX9_keep 14 = .ok (.getfield 39, 3) := by decide +kernel
theorem dX9_keep_17 : decode cX9_keep 17 = .ok (.aload_n 0, 1) := by decide +kernel
theorem dX9_keep_18 : decode cX9_keep 18 = .ok (.getfield 26, 3) := by decide +kernel
theorem dX9_keep_21 : decode cX9_keep 21 = .ok (.invokevirtual 119, 3) := by decide +kernel
theorem dX9_keep_24 : decode cX9_keep 24 = .ok (.aload_n 0, 1) := by decide +kernel
theorem dX9_keep_25 : decode cX9_keep 25 = .ok (.getfield 39, 3) := by decide +kernel
theorem dX9_keep_28 : decode cX9_keep 28 = .ok (.invokevirtual 158, 3) := by decide +kernel
theorem dX9_keep_31 : decode cX9_keep 31 = .ok (.ireturn, 1) := by decide +kernel
theorem dX9_back_0 : decode cX9_back 0 = .ok (.aload_n 0, 1) := by decide +kernel
theorem dX9_back_1 : decode cX9_back 1 = .ok (.getfield 39, 3) := by decide +kernel
theorem dX9_back_4 : decode cX9_back 4 = .ok (.invokevirtual 158, 3) := by decide +kernel
theorem dX9_back_7 : decode cX9_back 7 = .ok (.ifCond .ne 6, 3) := by decide +kernel
theorem dX9_back_10 : decode cX9_back 10 = .ok (.bipush (-2), 2) := by decide +kernel
theorem dX9_back_12 : decode cX9_back 12 = .ok (.ireturn, 1) := by decide +kernel
theorem dX9_back_13 : decode cX9_back 13 = .ok (.aload_n 0, 1) := by decide +kernel
theorem dX9_back_14 : decode cX9_back 14 = .ok (.getfield 39, 3) := by decide +kernel
theorem dX9_back_17 : decode cX9_back 17 = .ok (.aload_n 0, 1) := by decide +kernel
theorem dX9_back_18 : decode cX9_back 18 = .ok (.getfield 26, 3) := by decide +kernel
theorem dX9_back_21 : decode cX9_back 21 = .ok (.invokevirtual 159, 3) := by decide +kernel
theorem dX9_back_24 : decode cX9_back 24 = .ok (.aload_n 0, 1) := by decide +kernel
theorem dX9_back_25 : decode cX9_back 25 = .ok (.getfield 35, 3) := by decide +kernel
theorem dX9_back_28 : decode cX9_back 28 = .ok (.invokevirtual 99, 3) := by decide +kernel
theorem dX9_back_31 : decode cX9_back 31 = .ok (.aload_n 0, 1) := by decide +kernel
theorem dX9_back_32 : decode cX9_back 32 = .ok (.getfield 39, 3) := by decide +kernel
theorem dX9_back_35 : decode cX9_back 35 = .ok (.invokevirtual 158, 3) := by decide +kernel
theorem dX9_back_38 : decode cX9_back 38 = .ok (.ireturn, 1) := by decide +kernel
theorem dX9_count_0 : decode cX9_count 0 = .ok (.iload_n 1, 1) := by decide +kernel
theorem dX9_count_1 : decode cX9_count 1 = .ok (.tableswitch 111 0 7 #[47, 55, 63, 71, 79, 87, 95, 103], 47) := by decide +kernel
theorem dX9_count_48 : decode cX9_count 48 = .ok (.aload_n 0, 1) := by decide +kernel
theorem dX9_count_49 : decode cX9_count 49 = .ok (.getfield 61, 3) := by decide +kernel
theorem dX9_count_52 : decode cX9_count 52 = .ok (.invokevirtual 95, 3) := by decide +kernel
theorem dX9_count_55 : decode cX9_count 55 = .ok (.ireturn, 1) := by decide +kernel
theorem dX9_count_56 : decode cX9_count 56 = .ok (.aload_n 0, 1) := by decide +kernel
theorem dX9_count_57 : decode cX9_count 57 = .ok (.getfield 61, 3) := by decide +kernel
theorem dX9_count_60 : decode cX9_count 60 = .ok (.invokevirtual 234, 3) := by decide +kernel
theorem dX9_count_63 : decode cX9_count 63 = .ok (.ireturn, 1) := by decide +kernel
theorem dX9_count_64 : decode cX9_count 64 = .ok (.aload_n 0, 1) := by decide +kernel
theorem dX9_count_65 : decode cX9_count 65 = .ok (.getfield 61, 3) := by decide +kernel
theorem dX9_count_68 : decode cX9_count 68 = .ok (.invokevirtual 261, 3) := by decide +kernel
theorem dX9_count_71 : decode cX9_count 71 = .ok (.ireturn, 1) := by decide +kernel
theorem dX9_count_72 : decode cX9_count 72 = .ok (.aload_n 0, 1) := by decide +kernel
theorem dX9_count_73 : decode cX9_count 73 = .ok (.getfield 26, 3) := by decide +kernel
theorem dX9_count_76 : decode cX9_count 76 = .ok (.invokevirtual 137, 3) := by decide +kernel
theorem dX9_count_79 : decode cX9_count 79 = .ok (.ireturn, 1) := by decide +kernel
theorem dX9_count_80 : decode cX9_count 80 = .ok (.aload_n 0, 1) := by decide +kernel
theorem dX9_count_81 : decode cX9_count 81 = .ok (.getfield 26, 3) := by decide +kernel
theorem dX9_count_84 : decode cX9_count 84 = .ok (.invokevirtual 264, 3) := by decide +kernel
theorem dX9_count_87 : decode cX9_count 87 = .ok (.ireturn, 1) := by decide +kernel
theorem dX9_count_88 : decode cX9_count 88 = .ok (.aload_n 0, 1) := by decide +kernel
theorem dX9_count_89 : decode cX9_count 89 = .ok (.getfield 35, 3) := by decide +kernel
theorem dX9_count_92 : decode cX9_count 92 = .ok (.invokevirtual 158, 3) := by decide +kernel
theorem dX9_count_95 : decode cX9_count 95 = .ok (.ireturn, 1) := by decide +kernel
theorem dX9_count_96 : decode cX9_count 96 = .ok (.aload_n 0, 1) := by decide +kernel
theorem dX9_count_97 : decode cX9_count 97 = .ok (.getfield 39, 3) := by decide +kernel
theorem dX9_count_100 : decode cX9_count 100 = .ok (.invokevirtual 158, 3) := by decide +kernel
theorem dX9_count_103 : decode cX9_count 103 = .ok (.ireturn, 1) := by decide +kernel
theorem dX9_count_104 : decode cX9_count 104 = .ok (.aload_n 0, 1) := by decide +kernel
theorem dX9_count_105 : decode cX9_count 105 = .ok (.getfield 10, 3) := by decide +kernel
theorem dX9_count_108 : decode cX9_count 108 = .ok (.invokevirtual 84, 3) := by decide +kernel
theorem dX9_count_111 : decode cX9_count 111 = .ok (.ireturn, 1) := by decide +kernel
theorem dX9_count_112 : decode cX9_count 112 = .ok (.iconst (-1), 1) := by decide +kernel
theorem dX9_count_113 : decode cX9_count 113 = .ok (.ireturn, 1) := by decide +kernel
theorem dX9_within_0 : decode cX9_within 0 = .ok (.iload_n 0, 1) := by decide +kernel
theorem dX9_within_1 : decode cX9_within 1 = .ok (.iload_n 1, 1) := by decide +kernel
theorem dX9_within_2 : decode cX9_within 2 = .ok (.if_icmp .lt 12, 3) := by decide +kernel
theorem dX9_within_5 : decode cX9_within 5 = .ok (.iload_n 0, 1) := by decide +kernel
theorem dX9_within_6 : decode cX9_within 6 = .ok (.iload_n 2, 1) := by decide +kernel
theorem dX9_within_7 : decode cX9_within 7 = .ok (.if_icmp .gt 7, 3) := by decide +kernel
theorem dX9_within_10 : decode cX9_within 10 = .ok (.iconst 1, 1) := by decide +kernel
theorem dX9_within_11 : decode cX9_within 11 = .ok (.goto 4, 3) := by decide +kernel
theorem dX9_within_14 : decode cX9_within 14 = .ok (.iconst 0, 1) := by decide +kernel
theorem dX9_within_15 : decode cX9_within 15 = .ok (.ireturn, 1) := by decide +kernel
theorem dX9_isSign_0 : decode cX9_isSign 0 = .ok (.iload_n 0, 1) := by decide +kernel
theorem dX9_isSign_1 : decode cX9_isSign 1 = .ok (.iconst 0, 1) := by decide +kernel
theorem dX9_isSign_2 : decode cX9_isSign 2 = .ok (.bipush 71, 2) := by decide +kernel
theorem dX9_isSign_4 : decode cX9_isSign 4 = .ok (.invokestatic 72, 3) := by decide +kernel
theorem dX9_isSign_7 : decode cX9_isSign 7 = .ok (.ireturn, 1) := by decide +kernel
theorem dX9_isAge_0 : decode cX9_isAge 0 = .ok (.iload_n 0, 1) := by decide +kernel
theorem dX9_isAge_1 : decode cX9_isAge 1 = .ok (.iconst 0, 1) := by decide +kernel
theorem dX9_isAge_2 : decode cX9_isAge 2 = .ok (.bipush 20, 2) := by decide +kernel
theorem dX9_isAge_4 : decode cX9_isAge 4 = .ok (.invokestatic 72, 3) := by decide +kernel
theorem dX9_isAge_7 : decode cX9_isAge 7 = .ok (.ireturn, 1) := by decide +kernel
theorem dX9_isLoss_0 : decode cX9_isLoss 0 = .ok (.iload_n 0, 1) := by decide +kernel
theorem dX9_isLoss_1 : decode cX9_isLoss 1 = .ok (.invokestatic 207, 3) := by decide +kernel
theorem dX9_isLoss_4 : decode cX9_isLoss 4 = .ok (.ifCond .eq 16, 3) := by decide +kernel
theorem dX9_isLoss_7 : decode cX9_isLoss 7 = .ok (.iload_n 1, 1) := by decide +kernel
theorem dX9_isLoss_8 : decode cX9_isLoss 8 = .ok (.iconst 0, 1) := by decide +kernel
theorem dX9_isLoss_9 : decode cX9_isLoss 9 = .ok (.iconst 3, 1) := by decide +kernel
theorem dX9_isLoss_10 : decode cX9_isLoss 10 = .ok (.invokestatic 72, 3) := by decide +kernel
theorem dX9_isLoss_13 : decode cX9_isLoss 13 = .ok (.ifCond .eq 7, 3) := by decide +kernel
theorem dX9_isLoss_16 : decode cX9_isLoss 16 = .ok (.iconst 1, 1) := by decide +kernel
theorem dX9_isLoss_17 : decode cX9_isLoss 17 = .ok (.goto 4, 3) := by decide +kernel
theorem dX9_isLoss_20 : decode cX9_isLoss 20 = .ok (.iconst 0, 1) := by decide +kernel
theorem dX9_isLoss_21 : decode cX9_isLoss 21 = .ok (.ireturn, 1) := by decide +kernel
theorem dX9_isChoice_0 : decode cX9_isChoice 0 = .ok (.iload_n 0, 1) := by decide +kernel
theorem dX9_isChoice_1 : decode cX9_isChoice 1 = .ok (.iconst 0, 1) := by decide +kernel
theorem dX9_isChoice_2 : decode cX9_isChoice 2 = .ok (.iconst 1, 1) := by decide +kernel
theorem dX9_isChoice_3 : decode cX9_isChoice 3 = .ok (.invokestatic 72, 3) := by decide +kernel
theorem dX9_isChoice_6 : decode cX9_isChoice 6 = .ok (.ireturn, 1) := by decide +kernel
theorem dX9_isWord_0 : decode cX9_isWord 0 = .ok (.iload_n 1, 1) := by decide +kernel
theorem dX9_isWord_1 : decode cX9_isWord 1 = .ok (.iconst 0, 1) := by decide +kernel
theorem dX9_isWord_2 : decode cX9_isWord 2 = .ok (.aload_n 0, 1) := by decide +kernel
theorem dX9_isWord_3 : decode cX9_isWord 3 = .ok (.getfield 61, 3) := by decide +kernel
theorem dX9_isWord_6 : decode cX9_isWord 6 = .ok (.invokevirtual 95, 3) := by decide +kernel
theorem dX9_isWord_9 : decode cX9_isWord 9 = .ok (.iconst 1, 1) := by decide +kernel
theorem dX9_isWord_10 : decode cX9_isWord 10 = .ok (.isub, 1) := by decide +kernel
theorem dX9_isWord_11 : decode cX9_isWord 11 = .ok (.invokestatic 72, 3) := by decide +kernel
theorem dX9_isWord_14 : decode cX9_isWord 14 = .ok (.ireturn, 1) := by decide +kernel
theorem dX9_isCarrier_0 : decode cX9_isCarrier 0 = .ok (.iload_n 1, 1) := by decide +kernel
theorem dX9_isCarrier_1 : decode cX9_isCarrier 1 = .ok (.iconst 0, 1) := by decide +kernel
theorem dX9_isCarrier_2 : decode cX9_isCarrier 2 = .ok (.aload_n 0, 1) := by decide +kernel
theorem dX9_isCarrier_3 : decode cX9_isCarrier 3 = .ok (.getfield 61, 3) := by decide +kernel
theorem dX9_isCarrier_6 : decode cX9_isCarrier 6 = .ok (.invokevirtual 234, 3) := by decide +kernel
theorem dX9_isCarrier_9 : decode cX9_isCarrier 9 = .ok (.iconst 1, 1) := by decide +kernel
theorem dX9_isCarrier_10 : decode cX9_isCarrier 10 = .ok (.isub, 1) := by decide +kernel
theorem dX9_isCarrier_11 : decode cX9_isCarrier 11 = .ok (.invokestatic 72, 3) := by decide +kernel
theorem dX9_isCarrier_14 : decode cX9_isCarrier 14 = .ok (.ireturn, 1) := by decide +kernel
theorem dX9_wordBehind_0 : decode cX9_wordBehind 0 = .ok (.iload_n 1, 1) := by decide +kernel
theorem dX9_wordBehind_1 : decode cX9_wordBehind 1 = .ok (.iconst 1, 1) := by decide +kernel
theorem dX9_wordBehind_2 : decode cX9_wordBehind 2 = .ok (.iadd, 1) := by decide +kernel
theorem dX9_wordBehind_3 : decode cX9_wordBehind 3 = .ok (.aload_n 0, 1) := by decide +kernel
theorem dX9_wordBehind_4 : decode cX9_wordBehind 4 = .ok (.getfield 61, 3) := by decide +kernel
theorem dX9_wordBehind_7 : decode cX9_wordBehind 7 = .ok (.invokevirtual 95, 3) := by decide +kernel
theorem dX9_wordBehind_10 : decode cX9_wordBehind 10 = .ok (.if_icmp .ge 9, 3) := by decide +kernel
theorem dX9_wordBehind_13 : decode cX9_wordBehind 13 = .ok (.iload_n 1, 1) := by decide +kernel
theorem dX9_wordBehind_14 : decode cX9_wordBehind 14 = .ok (.iconst 1, 1) := by decide +kernel
theorem dX9_wordBehind_15 : decode cX9_wordBehind 15 = .ok (.iadd, 1) := by decide +kernel
theorem dX9_wordBehind_16 : decode cX9_wordBehind 16 = .ok (.goto 4, 3) := by decide +kernel
theorem dX9_wordBehind_19 : decode cX9_wordBehind 19 = .ok (.iconst 0, 1) := by decide +kernel
theorem dX9_wordBehind_20 : decode cX9_wordBehind 20 = .ok (.ireturn, 1) := by decide +kernel
theorem dX9_flourOf_0 : decode cX9_flourOf 0 = .ok (.iload_n 0, 1) := by decide +kernel
theorem dX9_flourOf_1 : decode cX9_flourOf 1 = .ok (.invokestatic 110, 3) := by decide +kernel
theorem dX9_flourOf_4 : decode cX9_flourOf 4 = .ok (.istore_n 2, 1) := by decide +kernel
theorem dX9_flourOf_5 : decode cX9_flourOf 5 = .ok (.iload_n 1, 1) := by decide +kernel
theorem dX9_flourOf_6 : decode cX9_flourOf 6 = .ok (.iconst 1, 1) := by decide +kernel
theorem dX9_flourOf_7 : decode cX9_flourOf 7 = .ok (.if_icmp .ne 7, 3) := by decide +kernel
theorem dX9_flourOf_10 : decode cX9_flourOf 10 = .ok (.iconst 2, 1) := by decide +kernel
theorem dX9_flourOf_11 : decode cX9_flourOf 11 = .ok (.iload_n 2, 1) := by decide +kernel
theorem dX9_flourOf_12 : decode cX9_flourOf 12 = .ok (.imul, 1) := by decide +kernel
theorem dX9_flourOf_13 : decode cX9_flourOf 13 = .ok (.ireturn, 1) := by decide +kernel
theorem dX9_flourOf_14 : decode cX9_flourOf 14 = .ok (.iload_n 1, 1) := by decide +kernel
theorem dX9_flourOf_15 : decode cX9_flourOf 15 = .ok (.iconst 2, 1) := by decide +kernel
theorem dX9_flourOf_16 : decode cX9_flourOf 16 = .ok (.if_icmp .ne 9, 3) := by decide +kernel
theorem dX9_flourOf_19 : decode cX9_flourOf 19 = .ok (.iload_n 2, 1) := by decide +kernel
theorem dX9_flourOf_20 : decode cX9_flourOf 20 = .ok (.iconst 2, 1) := by decide +kernel
theorem dX9_flourOf_21 : decode cX9_flourOf 21 = .ok (.iadd, 1) := by decide +kernel
theorem dX9_flourOf_22 : decode cX9_flourOf 22 = .ok (.goto 4, 3) := by decide +kernel
theorem dX9_flourOf_25 : decode cX9_flourOf 25 = .ok (.iload_n 2, 1) := by decide +kernel
theorem dX9_flourOf_26 : decode cX9_flourOf 26 = .ok (.ireturn, 1) := by decide +kernel
theorem dX9_signNow_0 : decode cX9_signNow 0 = .ok (.aload_n 0, 1) := by decide +kernel
theorem dX9_signNow_1 : decode cX9_signNow 1 = .ok (.getfield 26, 3) := by decide +kernel
theorem dX9_signNow_4 : decode cX9_signNow 4 = .ok (.iload_n 1, 1) := by decide +kernel
theorem dX9_signNow_5 : decode cX9_signNow 5 = .ok (.iconst 1, 1) := by decide +kernel
theorem dX9_signNow_6 : decode cX9_signNow 6 = .ok (.invokevirtual 146, 3) := by decide +kernel
theorem dX9_signNow_9 : decode cX9_signNow 9 = .ok (.istore_n 2, 1) := by decide +kernel
theorem dX9_signNow_10 : decode cX9_signNow 10 = .ok (.aload_n 0, 1) := by decide +kernel
theorem dX9_signNow_11 : decode cX9_signNow 11 = .ok (.getfield 26, 3) := by decide +kernel
theorem dX9_signNow_14 : decode cX9_signNow 14 = .ok (.iload_n 1, 1) := by decide +kernel
theorem dX9_signNow_15 : decode cX9_signNow 15 = .ok (.iconst 2, 1) := by decide +kernel
theorem dX9_signNow_16 : decode cX9_signNow 16 = .ok (.invokevirtual 146, 3) := by decide +kernel
theorem dX9_signNow_19 : decode cX9_signNow 19 = .ok (.istore_n 3, 1) := by decide +kernel
theorem dX9_signNow_20 : decode cX9_signNow 20 = .ok (.aload_n 0, 1) := by decide +kernel
theorem dX9_signNow_21 : decode cX9_signNow 21 = .ok (.getfield 26, 3) := by decide +kernel
theorem dX9_signNow_24 : decode cX9_signNow 24 = .ok (.iload_n 1, 1) := by decide +kernel
theorem dX9_signNow_25 : decode cX9_signNow 25 = .ok (.iconst 3, 1) := by decide +kernel
theorem dX9_signNow_26 : decode cX9_signNow 26 = .ok (.invokevirtual 146, 3) := by decide +kernel
theorem dX9_signNow_29 : decode cX9_signNow 29 = .ok (.istore 4, 2) := by decide +kernel
theorem dX9_signNow_31 : decode cX9_signNow 31 = .ok (.aload_n 0, 1) := by decide +kernel
theorem dX9_signNow_32 : decode cX9_signNow 32 = .ok (.getfield 61, 3) := by decide +kernel
theorem dX9_signNow_35 : decode cX9_signNow 35 = .ok (.aload_n 0, 1) := by decide +kernel
theorem dX9_signNow_36 : decode cX9_signNow 36 = .ok (.getfield 26, 3) := by decide +kernel
theorem dX9_signNow_39 : decode cX9_signNow 39 = .ok (.iload_n 1, 1) := by decide +kernel
theorem dX9_signNow_40 : decode cX9_signNow 40 = .ok (.iconst 4, 1) := by decide +kernel
theorem dX9_signNow_41 : decode cX9_signNow 41 = .ok (.invokevirtual 146, 3) := by decide +kernel
theorem dX9_signNow_44 : decode cX9_signNow 44 = .ok (.iload_n 2, 1) := by decide +kernel
theorem dX9_signNow_45 : decode cX9_signNow 45 = .ok (.iconst 1, 1) := by decide +kernel
theorem dX9_signNow_46 : decode cX9_signNow 46 = .ok (.if_icmp .ne 9, 3) := by decide +kernel
theorem dX9_signNow_49 : decode cX9_signNow 49 = .ok (.iload_n 3, 1) := by decide +kernel
theorem dX9_signNow_50 : decode cX9_signNow 50 = .ok (.iconst 2, 1) := by decide +kernel
theorem dX9_signNow_51 : decode cX9_signNow 51 = .ok (.idiv, 1) := by decide +kernel
theorem dX9_signNow_52 : decode cX9_signNow 52 = .ok (.goto 4, 3) := by decide +kernel
theorem dX9_signNow_55 : decode cX9_signNow 55 = .ok (.iload_n 3, 1) := by decide +kernel
theorem dX9_signNow_56 : decode cX9_signNow 56 = .ok (.iload_n 2, 1) := by decide +kernel
theorem dX9_signNow_57 : decode cX9_signNow 57 = .ok (.iconst 2, 1) := by decide +kernel
theorem dX9_signNow_58 : decode cX9_signNow 58 = .ok (.if_icmp .ne 7, 3) := by decide +kernel
theorem dX9_signNow_61 : decode cX9_signNow 61 = .ok (.iconst 0, 1) := by decide +kernel
theorem dX9_signNow_62 : decode cX9_signNow 62 = .ok (.goto 5, 3) := by decide +kernel
theorem dX9_signNow_65 : decode cX9_signNow 65 = .ok (.iload 4, 2) := by decide +kernel
theorem dX9_signNow_67 : decode cX9_signNow 67 = .ok (.invokevirtual 172, 3) := by decide +kernel
theorem dX9_signNow_70 : decode cX9_signNow 70 = .ok (.ireturn, 1) := by decide +kernel
theorem dX9_readingOf_0 : decode cX9_readingOf 0 = .ok (.aload_n 0, 1) := by decide +kernel
theorem dX9_readingOf_1 : decode cX9_readingOf 1 = .ok (.getfield 61, 3) := by decide +kernel
theorem dX9_readingOf_4 : decode cX9_readingOf 4 = .ok (.aload_n 0, 1) := by decide +kernel
theorem dX9_readingOf_5 : decode cX9_readingOf 5 = .ok (.iload_n 1, 1) := by decide +kernel
theorem dX9_readingOf_6 : decode cX9_readingOf 6 = .ok (.invokevirtual 162, 3) := by decide +kernel
theorem dX9_readingOf_9 : decode cX9_readingOf 9 = .ok (.invokevirtual 257, 3) := by decide +kernel
theorem dX9_readingOf_12 : decode cX9_readingOf 12 = .ok (.ireturn, 1) := by decide +kernel
theorem dX9_drawOf_0 : decode cX9_drawOf 0 = .ok (.ldc2_w 266, 3) := by decide +kernel
theorem dX9_drawOf_3 : decode cX9_drawOf 3 = .ok (.iload_n 0, 1) := by decide +kernel
theorem dX9_drawOf_4 : decode cX9_drawOf 4 = .ok (.i2l, 1) := by decide +kernel
theorem dX9_drawOf_5 : decode cX9_drawOf 5 = .ok (.lmul, 1) := by decide +kernel
theorem dX9_drawOf_6 : decode cX9_drawOf 6 = .ok (.ldc2_w 268, 3) := by decide +kernel
theorem dX9_drawOf_9 : decode cX9_drawOf 9 = .ok (.iload_n 1, 1) := by decide +kernel
theorem dX9_drawOf_10 : decode cX9_drawOf 10 = .ok (.i2l, 1) := by decide +kernel
theorem dX9_drawOf_11 : decode cX9_drawOf 11 = .ok (.lmul, 1) := by decide +kernel
theorem dX9_drawOf_12 : decode cX9_drawOf 12 = .ok (.ladd, 1) := by decide +kernel
theorem dX9_drawOf_13 : decode cX9_drawOf 13 = .ok (.lconst 1, 1) := by decide +kernel
theorem dX9_drawOf_14 : decode cX9_drawOf 14 = .ok (.ladd, 1) := by decide +kernel
theorem dX9_drawOf_15 : decode cX9_drawOf 15 = .ok (.lstore_n 2, 1) := by decide +kernel
theorem dX9_drawOf_16 : decode cX9_drawOf 16 = .ok (.lload_n 2, 1) := by decide +kernel
theorem dX9_drawOf_17 : decode cX9_drawOf 17 = .ok (.lload_n 2, 1) := by decide +kernel
theorem dX9_drawOf_18 : decode cX9_drawOf 18 = .ok (.lmul, 1) := by decide +kernel
theorem dX9_drawOf_19 : decode cX9_drawOf 19 = .ok (.ldc2_w 270, 3) := by decide +kernel
theorem dX9_drawOf_22 : decode cX9_drawOf 22 = .ok (.lrem, 1) := by decide +kernel
theorem dX9_drawOf_23 : decode cX9_drawOf 23 = .ok (.l2i, 1) := by decide +kernel
theorem dX9_drawOf_24 : decode cX9_drawOf 24 = .ok (.ireturn, 1) := by decide +kernel
theorem dX9_at_0 : decode cX9_at 0 = .ok (.iload_n 1, 1) := by decide +kernel
theorem dX9_at_1 : decode cX9_at 1 = .ok (.ifCond .lt 15, 3) := by decide +kernel
theorem dX9_at_4 : decode cX9_at 4 = .ok (.iload_n 1, 1) := by decide +kernel
theorem dX9_at_5 : decode cX9_at 5 = .ok (.aload_n 0, 1) := by decide +kernel
theorem dX9_at_6 : decode cX9_at 6 = .ok (.arraylength, 1) := by decide +kernel
theorem dX9_at_7 : decode cX9_at 7 = .ok (.if_icmp .ge 9, 3) := by decide +kernel
theorem dX9_at_10 : decode cX9_at 10 = .ok (.aload_n 0, 1) := by decide +kernel
theorem dX9_at_11 : decode cX9_at 11 = .ok (.iload_n 1, 1) := by decide +kernel
theorem dX9_at_12 : decode cX9_at 12 = .ok (.iaload, 1) := by decide +kernel
theorem dX9_at_13 : decode cX9_at 13 = .ok (.goto 4, 3) := by decide +kernel
theorem dX9_at_16 : decode cX9_at 16 = .ok (.iconst 0, 1) := by decide +kernel
theorem dX9_at_17 : decode cX9_at 17 = .ok (.ireturn, 1) := by decide +kernel
end
section
theorem dX10_init_0 : decode cX10_init 0 = .ok (.aload_n 0, 1) := by decide +kernel
theorem dX10_init_1 : decode cX10_init 1 = .ok (.invokespecial 1, 3) := by decide +kernel
theorem dX10_init_4 : decode cX10_init 4 = .ok (.aload_n 0, 1) := by decide +kernel
theorem dX10_init_5 : decode cX10_init 5 = .ok (.sipush 300, 3) := by decide +kernel
theorem dX10_init_8 : decode cX10_init 8 = .ok (.newarray .byte, 2) := by decide +kernel
theorem dX10_init_10 : decode cX10_init 10 = .ok (.putfield 7, 3) := by decide +kernel
theorem dX10_init_13 : decode cX10_init 13 = .ok (.aload_n 0, 1) := by decide +kernel
theorem dX10_init_14 : decode cX10_init 14 = .ok (.iconst 4, 1) := by decide +kernel
theorem dX10_init_15 : decode cX10_init 15 = .ok (.newarray .int, 2) := by decide +kernel
theorem dX10_init_17 : decode cX10_init 17 = .ok (.putfield 13, 3) := by decide +kernel
theorem dX10_init_20 : decode cX10_init 20 = .ok (.aload_n 0, 1) := by decide +kernel
theorem dX10_init_21 : decode cX10_init 21 = .ok (.iconst 2, 1) := by decide +kernel
theorem dX10_init_22 : decode cX10_init 22 = .ok (.newarray .int, 2) := by decide +kernel
theorem dX10_init_24 : decode cX10_init 24 = .ok (.putfield 17, 3) := by decide +kernel
theorem dX10_init_27 : decode cX10_init 27 = .ok (.aload_n 0, 1) := by decide +kernel
theorem dX10_init_28 : decode cX10_init 28 = .ok (.bipush 32, 2) := by decide +kernel
theorem dX10_init_30 : decode cX10_init 30 = .ok (.newarray .int, 2) := by decide +kernel
theorem dX10_init_32 : decode cX10_init 32 = .ok (.putfield 20, 3) := by decide +kernel
theorem dX10_init_35 : decode cX10_init 35 = .ok (.aload_n 0, 1) := by decide +kernel
theorem dX10_init_36 : decode cX10_init 36 = .ok (.iconst 2, 1) := by decide +kernel
theorem dX10_init_37 : decode cX10_init 37 = .ok (.newarray .int, 2) := by decide +kernel
theorem dX10_init_39 : decode cX10_init 39 = .ok (.putfield 23, 3) := by decide +kernel
theorem dX10_init_42 : decode cX10_init 42 = .ok (.aload_n 0, 1) := by decide +kernel
theorem dX10_init_43 : decode cX10_init 43 = .ok (.bipush 20, 2) := by decide +kernel
theorem dX10_init_45 : decode cX10_init 45 = .ok (.newarray .int, 2) := by decide +kernel
theorem dX10_init_47 : decode cX10_init 47 = .ok (.putfield 26, 3) := by decide +kernel
theorem dX10_init_50 : decode cX10_init 50 = .ok (.aload_n 0, 1) := by decide +kernel
theorem dX10_init_51 : decode cX10_init 51 = .ok (.iconst 2, 1) := by decide +kernel
theorem dX10_init_52 : decode cX10_init 52 = .ok (.newarray .int, 2) := by decide +kernel
theorem dX10_init_54 : decode cX10_init 54 = .ok (.putfield 29, 3) := by decide +kernel
theorem dX10_init_57 : decode cX10_init 57 = .ok (.aload_n 0, 1) := by decide +kernel
theorem dX10_init_58 : decode cX10_init 58 = .ok (.bipush 10, 2) := by decide +kernel
theorem dX10_init_60 : decode cX10_init 60 = .ok (.newarray .int, 2) := by decide +kernel
theorem dX10_init_62 : decode cX10_init 62 = .ok (.putfield 32, 3) := by decide +kernel
theorem dX10_init_65 : decode cX10_init 65 = .ok (.aload_n 0, 1) := by decide +kernel
theorem dX10_init_66 : decode cX10_init 66 = .ok (.iconst 3, 1) := by decide +kernel
theorem dX10_init_67 : decode cX10_init 67 = .ok (.newarray .int, 2) := by decide +kernel
theorem dX10_init_69 : decode cX10_init 69 = .ok (.putfield 35, 3) := by decide +kernel
theorem dX10_init_72 : decode cX10_init 72 = .ok (.aload_n 0, 1) := by decide +kernel
theorem dX10_init_73 : decode cX10_init 73 = .ok (.bipush 96, 2) := by decide +kernel
theorem dX10_init_75 : decode cX10_init 75 = .ok (.newarray .int, 2) := by decide +kernel
theorem dX10_init_77 : decode cX10_init 77 = .ok (.putfield 38, 3) := by decide +kernel
theorem dX10_init_80 : decode cX10_init 80 = .ok (.aload_n 0, 1) := by decide +kernel
theorem dX10_init_81 : decode cX10_init 81 = .ok (.iconst 3, 1) := by decide +kernel
theorem dX10_init_82 : decode cX10_init 82 = .ok (.newarray .int, 2) := by decide +kernel
theorem dX10_init_84 : decode cX10_init 84 = .ok (.putfield 41, 3) := by decide +kernel
theorem dX10_init_87 : decode cX10_init 87 = .ok (.aload_n 0, 1) := by decide +kernel
theorem dX10_init_88 : decode cX10_init 88 = .ok (.bipush 48, 2) := by decide +kernel
theorem dX10_init_90 : decode cX10_init 90 = .ok (.newarray .int, 2) := by decide +kernel
theorem dX10_init_92 : decode cX10_init 92 = .ok (.putfield 44, 3) := by decide +kernel
theorem dX10_init_95 : decode cX10_init 95 = .ok (.aload_n 0, 1) := by decide +kernel
theorem dX10_init_96 : decode cX10_init 96 = .ok (.sipush 5184, 3) := by decide +kernel
theorem dX10_init_99 : decode cX10_init 99 = .ok (.newarray .boolean, 2) := by decide +kernel
theorem dX10_init_101 : decode cX10_init 101 = .ok (.putfield 47, 3) := by decide +kernel
theorem dX10_init_104 : decode cX10_init 104 = .ok (.aload_n 0, 1) := by decide +kernel
theorem dX10_init_105 : decode cX10_init 105 = .ok (.iconst 3, 1) := by decide +kernel
theorem dX10_init_106 : decode cX10_init 106 = .ok (.newarray .int, 2) := by decide +kernel
theorem dX10_init_108 : decode cX10_init 108 = .ok (.putfield 51, 3) := by decide +kernel
theorem dX10_init_111 : decode cX10_init 111 = .ok (.aload_n 0, 1) := by decide +kernel
theorem dX10_init_112 : decode cX10_init 112 = .ok (.iconst 4, 1) := by decide +kernel
theorem dX10_init_113 : decode cX10_init 113 = .ok (.newarray .int, 2) := by decide +kernel
theorem dX10_init_115 : decode cX10_init 115 = .ok (.putfield 54, 3) := by decide +kernel
theorem dX10_init_118 : decode cX10_init 118 = .ok (.aload_n 0, 1) := by decide +kernel
theorem dX10_init_119 : decode cX10_init 119 = .ok (.invokevirtual 57, 3) := by decide +kernel
theorem dX10_init_122 : decode cX10_init 122 = .ok (.aload_n 0, 1) := by decide +kernel
theorem dX10_init_123 : decode cX10_init 123 = .ok (.getfield 17, 3) := by decide +kernel
theorem dX10_init_126 : decode cX10_init 126 = .ok (.iconst 1, 1) := by decide +kernel
theorem dX10_init_127 : decode cX10_init 127 = .ok (.iconst 1, 1) := by decide +kernel
theorem dX10_init_128 : decode cX10_init 128 = .ok (.iastore, 1) := by decide +kernel
theorem dX10_init_129 : decode cX10_init 129 = .ok (.aload_n 0, 1) := by decide +kernel
theorem dX10_init_130 : decode cX10_init 130 = .ok (.getfield 20, 3) := by decide +kernel
theorem dX10_init_133 : decode cX10_init 133 = .ok (.bipush 16, 2) := by decide +kernel
theorem dX10_init_135 : decode cX10_init 135 = .ok (.iconst 1, 1) := by decide +kernel
theorem dX10_init_136 : decode cX10_init 136 = .ok (.iastore, 1) := by decide +kernel
theorem dX10_init_137 : decode cX10_init 137 = .ok (.aload_n 0, 1) := by decide +kernel
theorem dX10_init_138 : decode cX10_init 138 = .ok (.getfield 20, 3) := by decide +kernel
theorem dX10_init_141 : decode cX10_init 141 = .ok (.bipush 17, 2) := by decide +kernel
theorem dX10_init_143 : decode cX10_init 143 = .ok (.iconst 5, 1) := by decide +kernel
theorem dX10_init_144 : decode cX10_init 144 = .ok (.iastore, 1) := by decide +kernel
theorem dX10_init_145 : decode cX10_init 145 = .ok (.aload_n 0, 1) := by decide +kernel
theorem dX10_init_146 : decode cX10_init 146 = .ok (.invokevirtual 60, 3) := by decide +kernel
theorem dX10_init_149 : decode cX10_init 149 = .ok (.return_, 1) := by decide +kernel
theorem dX10_in_0 : decode cX10_in 0 = .ok (.lload_n 0, 1) := by decide +kernel
theorem dX10_in_1 : decode cX10_in 1 = .ok (.lload_n 2, 1) := by decide +kernel
theorem dX10_in_2 : decode cX10_in 2 = .ok (.lcmp, 1) := by decide +kernel
theorem dX10_in_3 : decode cX10_in 3 = .ok (.ifCond .lt 14, 3) := by decide +kernel
theorem dX10_in_6 : decode cX10_in 6 = .ok (.lload_n 0, 1) := by decide +kernel
theorem dX10_in_7 : decode cX10_in 7 = .ok (.lload 4, 2) := by decide +kernel
theorem dX10_in_9 : decode cX10_in 9 = .ok (.lcmp, 1) := by decide +kernel
theorem dX10_in_10 : decode cX10_in 10 = .ok (.ifCond .gt 7, 3) := by decide +kernel
theorem dX10_in_13 : decode cX10_in 13 = .ok (.iconst 1, 1) := by decide +kernel
theorem dX10_in_14 : decode cX10_in 14 = .ok (.goto 4, 3) := by decide +kernel
theorem dX10_in_17 : decode cX10_in 17 = .ok (.iconst 0, 1) := by decide +kernel
theorem dX10_in_18 : decode cX10_in 18 = .ok (.ireturn, 1) := by decide +kernel
theorem dX10_write_0 : decode cX10_write 0 = .ok (.iload_n 1, 1) := by decide +kernel
theorem dX10_write_1 : decode cX10_write 1 = .ok (.i2l, 1) := by decide +kernel
theorem dX10_write_2 : decode cX10_write 2 = .ok (.lconst 1, 1) := by decide +kernel
theorem dX10_write_3 : decode cX10_write 3 = .ok (.ldc2_w 63, 3) := by decide +kernel
theorem dX10_write_6 : decode cX10_write 6 = .ok (.invokestatic 65, 3) := by decide +kernel
theorem dX10_write_9 : decode cX10_write 9 = .ok (.ifCond .ne 5, 3) := by decide +kernel
theorem dX10_write_12 : decode cX10_write 12 = .ok (.iconst (-1), 1) := by decide +kernel
theorem dX10_write_13 : decode cX10_write 13 = .ok (.ireturn, 1) := by decide +kernel
theorem dX10_write_14 : decode cX10_write 14 = .ok (.aload_n 0, 1) := by decide +kernel
theorem dX10_write_15 : decode cX10_write 15 = .ok (.getfield 69, 3) := by decide +kernel
theorem dX10_write_18 : decode cX10_write 18 = .ok (.iload_n 1, 1) := by decide +kernel
theorem dX10_write_19 : decode cX10_write 19 = .ok (.iadd, 1) := by decide +kernel
theorem dX10_write_20 : decode cX10_write 20 = .ok (.sipush 300, 3) := by decide +kernel
theorem dX10_write_23 : decode cX10_write 23 = .ok (.if_icmp .le 6, 3) := by decide +kernel
theorem dX10_write_26 : decode cX10_write 26 = .ok (.bipush (-3), 2) := by decide +kernel
theorem dX10_write_28 : decode cX10_write 28 = .ok (.ireturn, 1) := by decide +kernel
theorem dX10_write_29 : decode cX10_write 29 = .ok (.iload_n 1, 1) := by decide +kernel
theorem dX10_write_30 : decode cX10_write 30 = .ok (.iconst 1, 1) := by decide +kernel
theorem dX10_write_31 : decode cX10_write 31 = .ok (.isub, 1) := by decide +kernel
theorem dX10_write_32 : decode cX10_write 32 = .ok (.istore 4, 2) := by decide +kernel
theorem dX10_write_34 : decode cX10_write 34 = .ok (.iload 4, 2) := by decide +kernel
theorem dX10_write_36 : decode cX10_write 36 = .ok (.ifCond .lt 37, 3) := by decide +kernel
theorem dX10_write_39 : decode cX10_write 39 = .ok (.aload_n 0, 1) := by decide +kernel
theorem dX10_write_40 : decode cX10_write 40 = .ok (.getfield 7, 3) := by decide +kernel
theorem dX10_write_43 : decode cX10_write 43 = .ok (.aload_n 0, 1) := by decide +kernel
theorem dX10_write_44 : decode cX10_write 44 = .ok (.getfield 69, 3) := by decide +kernel
theorem dX10_write_47 : decode cX10_write 47 = .ok (.lload_n 2, 1) := by decide +kernel
theorem dX10_write_48 : decode cX10_write 48 = .ok (.bipush 8, 2) := by decide +kernel
theorem dX10_write_50 : decode cX10_write 50 = .ok (.iload 4, 2) := by decide +kernel
theorem dX10_write_52 : decode cX10_write 52 = .ok (.imul, 1) := by decide +kernel
theorem dX10_write_53 : decode cX10_write 53 = .ok (.lshr, 1) := by decide +kernel
theorem dX10_write_54 : decode cX10_write 54 = .ok (.l2i, 1) := by decide +kernel
theorem dX10_write_55 : decode cX10_write 55 = .ok (.i2b, 1) := by decide +kernel
theorem dX10_write_56 : decode cX10_write 56 = .ok (.bastore, 1) := by decide +kernel
theorem dX10_write_57 : decode cX10_write 57 = .ok (.aload_n 0, 1) := by decide +kernel
theorem dX10_write_58 : decode cX10_write 58 = .ok (.dup, 1) := by decide +kernel
theorem dX10_write_59 : decode cX10_write 59 = .ok (.getfield 69, 3) := by decide +kernel
theorem dX10_write_62 : decode cX10_write 62 = .ok (.iconst 1, 1) := by decide +kernel
theorem dX10_write_63 : decode cX10_write 63 = .ok (.iadd, 1) := by decide +kernel
theorem dX10_write_64 : decode cX10_write 64 = .ok (.putfield 69, 3) := by decide +kernel
theorem dX10_write_67 : decode cX10_write 67 = .ok (.iinc 4 (-1), 3) := by decide +kernel
theorem dX10_write_70 : decode cX10_write 70 = .ok (.goto (-36), 3) := by decide +kernel
theorem dX10_write_73 : decode cX10_write 73 = .ok (.aload_n 0, 1) := by decide +kernel
theorem dX10_write_74 : decode cX10_write 74 = .ok (.getfield 69, 3) := by decide +kernel
theorem dX10_write_77 : decode cX10_write 77 = .ok (.ireturn, 1) := by decide +kernel
theorem dX10_wipe_0 : decode cX10_wipe 0 = .ok (.aload_n 0, 1) := by decide +kernel
theorem dX10_wipe_1 : decode cX10_wipe 1 = .ok (.getfield 69, 3) := by decide +kernel
theorem dX10_wipe_4 : decode cX10_wipe 4 = .ok (.istore_n 1, 1) := by decide +kernel
theorem dX10_wipe_5 : decode cX10_wipe 5 = .ok (.aload_n 0, 1) := by decide +kernel
theorem dX10_wipe_6 : decode cX10_wipe 6 = .ok (.iconst 0, 1) := by decide +kernel
theorem dX10_wipe_7 : decode cX10_wipe 7 = .ok (.putfield 69, 3) := by decide +kernel
theorem dX10_wipe_10 : decode cX10_wipe 10 = .ok (.iload_n 1, 1) := by decide +kernel
theorem dX10_wipe_11 : decode cX10_wipe 11 = .ok (.ireturn, 1) := by decide +kernel
theorem dX10_number_0 : decode cX10_number 0 = .ok (.iconst 0, 1) := by decide +kernel
theorem dX10_number_1 : decode cX10_number 1 = .ok (.istore_n 1, 1) := by decide +kernel
theorem dX10_number_2 : decode cX10_number 2 = .ok (.iconst 0, 1) := by decide +kernel
theorem dX10_number_3 : decode cX10_number 3 = .ok (.istore_n 2, 1) := by decide +kernel
theorem dX10_number_4 : decode cX10_number 4 = .ok (.aload_n 0, 1) := by decide +kernel
theorem dX10_number_5 : decode cX10_number 5 = .ok (.getfield 73, 3) := by decide +kernel
theorem dX10_number_8 : decode cX10_number 8 = .ok (.aload_n 0, 1) := by decide +kernel
theorem dX10_number_9 : decode cX10_number 9 = .ok (.getfield 69, 3) := by decide +kernel
theorem dX10_number_12 : decode cX10_number 12 = .ok (.if_icmp .ge 68, 3) := by decide +kernel
theorem dX10_number_15 : decode cX10_number 15 = .ok (.aload_n 0, 1) := by decide +kernel
theorem dX10_number_16 : decode cX10_number 16 = .ok (.getfield 7, 3) := by decide +kernel
theorem dX10_number_19 : decode cX10_number 19 = .ok (.aload_n 0, 1) := by decide +kernel
theorem dX10_number_20 : decode cX10_number 20 = .ok (.getfield 73, 3) := by decide +kernel
theorem dX10_number_23 : decode cX10_number 23 = .ok (.baload, 1) := by decide +kernel
theorem dX10_number_24 : decode cX10_number 24 = .ok (.i2l, 1) := by decide +kernel
theorem dX10_number_25 : decode cX10_number 25 = .ok (.ldc2_w 76, 3) := by decide +kernel
theorem dX10_number_28 : decode cX10_number 28 = .ok (.ldc2_w 78, 3) := by decide +kernel
theorem dX10_number_31 : decode cX10_number 31 = .ok (.invokestatic 65, 3) := by decide +kernel
theorem dX10_number_34 : decode cX10_number 34 = .ok (.ifCond .eq 46, 3) := by decide +kernel
theorem dX10_number_37 : decode cX10_number 37 = .ok (.iload_n 2, 1) := by decide +kernel
theorem dX10_number_38 : decode cX10_number 38 = .ok (.iconst 2, 1) := by decide +kernel
theorem dX10_number_39 : decode cX10_number 39 = .ok (.if_icmp .ge 23, 3) := by decide +kernel
theorem dX10_number_42 : decode cX10_number 42 = .ok (.bipush 10, 2) := by decide +kernel
theorem dX10_number_44 : decode cX10_number 44 = .ok (.iload_n 1, 1) := by decide +kernel
theorem dX10_number_45 : decode cX10_number 45 = .ok (.imul, 1) := by decide +kernel
theorem dX10_number_46 : decode cX10_number 46 = .ok (.aload_n 0, 1) := by decide +kernel
theorem dX10_number_47 : decode cX10_number 47 = .ok (.getfield 7, 3) := by decide +kernel
theorem dX10_number_50 : decode cX10_number 50 = .ok (.aload_n 0, 1) := by decide +kernel
theorem dX10_number_51 : decode cX10_number 51 = .ok (.getfield 73, 3) := by decide +kernel
theorem dX10_number_54 : decode cX10_number 54 = .ok (.baload, 1) := by decide +kernel
theorem dX10_number_55 : decode cX10_number 55 = .ok (.iadd, 1) := by decide +kernel
theorem dX10_number_56 : decode cX10_number 56 = .ok (.bipush 48, 2) := by decide +kernel
theorem dX10_number_58 : decode cX10_number 58 = .ok (.isub, 1) := by decide +kernel
theorem dX10_number_59 : decode cX10_number 59 = .ok (.goto 4, 3) := by decide +kernel
theorem dX10_number_62 : decode cX10_number 62 = .ok (.iload_n 1, 1) := by decide +kernel
theorem dX10_number_63 : decode cX10_number 63 = .ok (.istore_n 1, 1) := by decide +kernel
theorem dX10_number_64 : decode cX10_number 64 = .ok (.iinc 2 1, 3) := by decide +kernel
theorem dX10_number_67 : decode cX10_number 67 = .ok (.aload_n 0, 1) := by decide +kernel
theorem dX10_number_68 : decode cX10_number 68 = .ok (.dup, 1) := by decide +kernel
theorem dX10_number_69 : decode cX10_number 69 = .ok (.getfield 73, 3) := by decide +kernel
theorem dX10_number_72 : decode cX10_number 72 = .ok (.iconst 1, 1) := by decide +kernel
theorem dX10_number_73 : decode cX10_number 73 = .ok (.iadd, 1) := by decide +kernel
theorem dX10_number_74 : decode cX10_number 74 = .ok (.putfield 73, 3) := by decide +kernel
theorem dX10_number_77 : decode cX10_number 77 = .ok (.goto (-73), 3) := by decide +kernel
theorem dX10_number_80 : decode cX10_number 80 = .ok (.iload_n 2, 1) := by decide +kernel
theorem dX10_number_81 : decode cX10_number 81 = .ok (.i2l, 1) := by decide +kernel
theorem dX10_number_82 : decode cX10_number 82 = .ok (.lconst 1, 1) := by decide +kernel
theorem dX10_number_83 : decode cX10_number 83 = .ok (.ldc2_w 80, 3) := by decide +kernel
theorem dX10_number_86 : decode cX10_number 86 = .ok (.invokestatic 65, 3) := by decide +kernel
theorem dX10_number_89 : decode cX10_number 89 = .ok (.ifCond .eq 7, 3) := by decide +kernel
theorem dX10_number_92 : decode cX10_number 92 = .ok (.iload_n 1, 1) := by decide +kernel
theorem dX10_number_93 : decode cX10_number 93 = .ok (.goto 4, 3) := by decide +kernel
theorem dX10_number_96 : decode cX10_number 96 = .ok (.iconst (-1), 1) := by decide +kernel
theorem dX10_number_97 : decode cX10_number 97 = .ok (.ireturn, 1) := by decide +kernel
theorem dX10_parts_0 : decode cX10_parts 0 = .ok (.iload_n 0, 1) := by decide +kernel
theorem dX10_parts_1 : decode cX10_parts 1 = .ok (.bipush 119, 2) := by decide +kernel
theorem dX10_parts_3 : decode cX10_parts 3 = .ok (.if_icmp .ne 7, 3) := by decide +kernel
theorem dX10_parts_6 : decode cX10_parts 6 = .ok (.iconst 4, 1) := by decide +kernel
theorem dX10_parts_7 : decode cX10_parts 7 = .ok (.goto 30, 3) := by decide +kernel
theorem dX10_parts_10 : decode cX10_parts 10 = .ok (.iload_n 0, 1) := by decide +kernel
theorem dX10_parts_11 : decode cX10_parts 11 = .ok (.bipush 98, 2) := by decide +kernel
theorem dX10_parts_13 : decode cX10_parts 13 = .ok (.if_icmp .eq 9, 3) := by decide +kernel
theorem dX10_parts_16 : decode cX10_parts 16 = .ok (.iload_n 0, 1) := by decide +kernel
theorem dX10_parts_17 : decode cX10_parts 17 = .ok (.bipush 99, 2) := by decide +kernel
theorem dX10_parts_19 : decode cX10_parts 19 = .ok (.if_icmp .ne 7, 3) := by decide +kernel
theorem dX10_parts_22 : decode cX10_parts 22 = .ok (.iconst 2, 1) := by decide +kernel
theorem dX10_parts_23 : decode cX10_parts 23 = .ok (.goto 14, 3) := by decide +kernel
theorem dX10_parts_26 : decode cX10_parts 26 = .ok (.iload_n 0, 1) := by decide +kernel
theorem dX10_parts_27 : decode cX10_parts 27 = .ok (.bipush 107, 2) := by decide +kernel
theorem dX10_parts_29 : decode cX10_parts 29 = .ok (.if_icmp .ne 7, 3) := by decide +kernel
theorem dX10_parts_32 : decode cX10_parts 32 = .ok (.iconst 1, 1) := by decide +kernel
theorem dX10_parts_33 : decode cX10_parts 33 = .ok (.goto 4, 3) := by decide +kernel
theorem dX10_parts_36 : decode cX10_parts 36 = .ok (.iconst 0, 1) := by decide +kernel
theorem dX10_parts_37 : decode cX10_parts 37 = .ok (.ireturn, 1) := by decide +kernel
theorem dX10_isIn_0 : decode cX10_isIn 0 = .ok (.aload_n 0, 1) := by decide +kernel
theorem dX10_isIn_1 : decode cX10_isIn 1 = .ok (.getfield 54, 3) := by decide +kernel
theorem dX10_isIn_4 : decode cX10_isIn 4 = .ok (.iload_n 1, 1) := by decide +kernel
theorem dX10_isIn_5 : decode cX10_isIn 5 = .ok (.iaload, 1) := by decide +kernel
theorem dX10_isIn_6 : decode cX10_isIn 6 = .ok (.i2l, 1) := by decide +kernel
theorem dX10_isIn_7 : decode cX10_isIn 7 = .ok (.iload_n 2, 1) := by decide +kernel
theorem dX10_isIn_8 : decode cX10_isIn 8 = .ok (.i2l, 1) := by decide +kernel
theorem dX10_isIn_9 : decode cX10_isIn 9 = .ok (.iload_n 3, 1) := by decide +kernel
theorem dX10_isIn_10 : decode cX10_isIn 10 = .ok (.i2l, 1) := by decide +kernel
theorem dX10_isIn_11 : decode cX10_isIn 11 = .ok (.invokestatic 65, 3) := by decide +kernel
theorem dX10_isIn_14 : decode cX10_isIn 14 = .ok (.ireturn, 1) := by decide +kernel
theorem dX10_isItem_0 : decode cX10_isItem 0 = .ok (.aload_n 0, 1) := by decide +kernel
theorem dX10_isItem_1 : decode cX10_isItem 1 = .ok (.getfield 7, 3) := by decide +kernel
theorem dX10_isItem_4 : decode cX10_isItem 4 = .ok (.aload_n 0, 1) := by decide +kernel
theorem dX10_isItem_5 : decode cX10_isItem 5 = .ok (.getfield 73, 3) := by decide +kernel
theorem dX10_isItem_8 : decode cX10_isItem 8 = .ok (.baload, 1) := by decide +kernel
theorem dX10_isItem_9 : decode cX10_isItem 9 = .ok (.istore_n 1, 1) := by decide +kernel
theorem dX10_isItem_10 : decode cX10_isItem 10 = .ok (.aload_n 0, 1) := by decide +kernel
theorem dX10_isItem_11 : decode cX10_isItem 11 = .ok (.dup, 1) := by decide +kernel
theorem dX10_isItem_12 : decode cX10_isItem 12 = .ok (.getfield 73, 3) := by decide +kernel
theorem dX10_isItem_15 : decode cX10_isItem 15 = .ok (.iconst 1, 1) := by decide +kernel
theorem dX10_isItem_16 : decode cX10_isItem 16 = .ok (.iadd, 1) := by decide +kernel
theorem dX10_isItem_17 : decode cX10_isItem 17 = .ok (.putfield 73, 3) := by decide +kernel
theorem dX10_isItem_20 : decode cX10_isItem 20 = .ok (.iload_n 1, 1) := by decide +kernel
theorem dX10_isItem_21 : decode cX10_isItem 21 = .ok (.invokestatic 82, 3) := by decide +kernel
theorem dX10_isItem_24 : decode cX10_isItem 24 = .ok (.istore_n 2, 1) := by decide +kernel
theorem dX10_isItem_25 : decode cX10_isItem 25 = .ok (.iload_n 2, 1) := by decide +kernel
theorem dX10_isItem_26 : decode cX10_isItem 26 = .ok (.ifCond .le 7, 3) := by decide +kernel
theorem dX10_isItem_29 : decode cX10_isItem 29 = .ok (.iconst 1, 1) := by decide +kernel
theorem dX10_isItem_30 : decode cX10_isItem 30 = .ok (.goto 4, 3) := by decide +kernel
theorem dX10_isItem_33 : decode cX10_isItem 33 = .ok (.iconst 0, 1) := by decide +kernel
theorem dX10_isItem_34 : decode cX10_isItem 34 = .ok (.istore_n 3, 1) := by decide +kernel
theorem dX10_isItem_35 : decode cX10_isItem 35 = .ok (.iconst 0, 1) := by decide +kernel
theorem dX10_isItem_36 : decode cX10_isItem 36 = .ok (.istore 4, 2) := by decide +kernel
theorem dX10_isItem_38 : decode cX10_isItem 38 = .ok (.iload 4, 2) := by decide +kernel
theorem dX10_isItem_40 : decode cX10_isItem 40 = .ok (.iload_n 2, 1) := by decide +kernel
theorem dX10_isItem_41 : decode cX10_isItem 41 = .ok (.if_icmp .ge 103, 3) := by decide +kernel
theorem dX10_isItem_44 : decode cX10_isItem 44 = .ok (.iload_n 3, 1) := by decide +kernel
theorem dX10_isItem_45 : decode cX10_isItem 45 = .ok (.ifCond .eq 99, 3) := by decide +kernel
theorem dX10_isItem_48 : decode cX10_isItem 48 = .ok (.iload 4, 2) := by decide +kernel
theorem dX10_isItem_50 : decode cX10_isItem 50 = .ok (.ifCond .eq 28, 3) := by decide +kernel
theorem dX10_isItem_53 : decode cX10_isItem 53 = .ok (.aload_n 0, 1) := by decide +kernel
theorem dX10_isItem_54 : decode cX10_isItem 54 = .ok (.getfield 73, 3) := by decide +kernel
theorem dX10_isItem_57 : decode cX10_isItem 57 = .ok (.aload_n 0, 1) := by decide +kernel
theorem dX10_isItem_58 : decode cX10_isItem 58 = .ok (.getfield 69, 3) := by decide +kernel
theorem dX10_isItem_61 : decode cX10_isItem 61 = .ok (.if_icmp .ge 21, 3) := by decide +kernel
theorem dX10_isItem_64 : decode cX10_isItem 64 = .ok (.aload_n 0, 1) := by decide +kernel
theorem dX10_isItem_65 : decode cX10_isItem 65 = .ok (.getfield 7, 3) := by decide +kernel
theorem dX10_isItem_68 : decode cX10_isItem 68 = .ok (.aload_n 0, 1) := by decide +kernel
theorem dX10_isItem_69 : decode cX10_isItem 69 = .ok (.getfield 73, 3) := by decide +kernel
theorem dX10_isItem_72 : decode cX10_isItem 72 = .ok (.baload, 1) := by decide +kernel
theorem dX10_isItem_73 : decode cX10_isItem 73 = .ok (.bipush 44, 2) := by decide +kernel
theorem dX10_isItem_75 : decode cX10_isItem 75 = .ok (.if_icmp .ne 7, 3) := by decide +kernel
theorem dX10_isItem_78 : decode cX10_isItem 78 = .ok (.iconst 1, 1) := by decide +kernel
theorem dX10_isItem_79 : decode cX10_isItem 79 = .ok (.goto 4, 3) := by decide +kernel
theorem dX10_isItem_82 : decode cX10_isItem 82 = .ok (.iconst 0, 1) := by decide +kernel
theorem dX10_isItem_83 : decode cX10_isItem 83 = .ok (.istore_n 3, 1) := by decide +kernel
theorem dX10_isItem_84 : decode cX10_isItem 84 = .ok (.aload_n 0, 1) := by decide +kernel
theorem dX10_isItem_85 : decode cX10_isItem 85 = .ok (.dup, 1) := by decide +kernel
theorem dX10_isItem_86 : decode cX10_isItem 86 = .ok (.getfield 73, 3) := by decide +kernel
theorem dX10_isItem_89 : decode cX10_isItem 89 = .ok (.iload 4, 2) := by decide +kernel
theorem dX10_isItem_91 : decode cX10_isItem 91 = .ok (.ifCond .ne 7, 3) := by decide +kernel
theorem dX10_isItem_94 : decode cX10_isItem 94 = .ok (.iconst 0, 1) := by decide +kernel
theorem dX10_isItem_95 : decode cX10_isItem 95 = .ok (.goto 4, 3) := by decide +kernel
theorem dX10_isItem_98 : decode cX10_isItem 98 = .ok (.iconst 1, 1) := by decide +kernel
theorem dX10_isItem_99 : decode cX10_isItem 99 = .ok (.iadd, 1) := by decide +kernel
theorem dX10_isItem_100 : decode cX10_isItem 100 = .ok (.putfield 73, 3) := by decide +kernel
theorem dX10_isItem_103 : decode cX10_isItem 103 = .ok (.aload_n 0, 1) := by decide +kernel
theorem dX10_isItem_104 : decode cX10_isItem 104 = .ok (.getfield 54, 3) := by decide +kernel
theorem dX10_isItem_107 : decode cX10_isItem 107 = .ok (.iload 4, 2) := by decide +kernel
theorem dX10_isItem_109 : decode cX10_isItem 109 = .ok (.iload_n 3, 1) := by decide +kernel
theorem dX10_isItem_110 : decode cX10_isItem 110 = .ok (.ifCond .eq 10, 3) := by decide +kernel
theorem dX10_isItem_113 : decode cX10_isItem 113 = .ok (.aload_n 0, 1) := by decide +kernel
theorem dX10_isItem_114 : decode cX10_isItem 114 = .ok (.invokevirtual 86, 3) := by decide +kernel
theorem dX10_isItem_117 : decode cX10_isItem 117 = .ok (.goto 4, 3) := by decide +kernel
theorem dX10_isItem_120 : decode cX10_isItem 120 = .ok (.iconst (-1), 1) := by decide +kernel
theorem dX10_isItem_121 : decode cX10_isItem 121 = .ok (.iastore, 1) := by decide +kernel
theorem dX10_isItem_122 : decode cX10_isItem 122 = .ok (.aload_n 0, 1) := by decide +kernel
theorem dX10_isItem_123 : decode cX10_isItem 123 = .ok (.getfield 54, 3) := by decide +kernel
theorem dX10_isItem_126 : decode cX10_isItem 126 = .ok (.iload 4, 2) := by decide +kernel
theorem dX10_isItem_128 : decode cX10_isItem 128 = .ok (.iaload, 1) := by decide +kernel
theorem dX10_isItem_129 : decode cX10_isItem 129 = .ok (.ifCond .lt 7, 3) := by decide +kernel
theorem dX10_isItem_132 : decode cX10_isItem 132 = .ok (.iconst 1, 1) := by decide +kernel
theorem dX10_isItem_133 : decode cX10_isItem 133 = .ok (.goto 4, 3) := by decide +kernel
theorem dX10_isItem_136 : decode cX10_isItem 136 = .ok (.iconst 0, 1) := by decide +kernel
theorem dX10_isItem_137 : decode cX10_isItem 137 = .ok (.istore_n 3, 1) := by decide +kernel
theorem dX10_isItem_138 : decode cX10_isItem 138 = .ok (.iinc 4 1, 3) := by decide +kernel
theorem dX10_isItem_141 : decode cX10_isItem 141 = .ok (.goto (-103), 3) := by decide +kernel
theorem dX10_isItem_144 : decode cX10_isItem 144 = .ok (.iload_n 3, 1) := by decide +kernel
theorem dX10_isItem_145 : decode cX10_isItem 145 = .ok (.ifCond .eq 32, 3) := by decide +kernel
theorem dX10_isItem_148 : decode cX10_isItem 148 = .ok (.aload_n 0, 1) := by decide +kernel
theorem dX10_isItem_149 : decode cX10_isItem 149 = .ok (.getfield 73, 3) := by decide +kernel
theorem dX10_isItem_152 : decode cX10_isItem 152 = .ok (.aload_n 0, 1) := by decide +kernel
theorem dX10_isItem_153 : decode cX10_isItem 153 = .ok (.getfield 69, 3) := by decide +kernel
theorem dX10_isItem_156 : decode cX10_isItem 156 = .ok (.if_icmp .ge 21, 3) := by decide +kernel
theorem dX10_isItem_159 : decode cX10_isItem 159 = .ok (.aload_n 0, 1) := by decide +kernel
theorem dX10_isItem_160 : decode cX10_isItem 160 = .ok (.getfield 7, 3) := by decide +kernel
theorem dX10_isItem_163 : decode cX10_isItem 163 = .ok (.aload_n 0, 1) := by decide +kernel
theorem dX10_isItem_164 : decode cX10_isItem 164 = .ok (.getfield 73, 3) := by decide +kernel
theorem dX10_isItem_167 : decode cX10_isItem 167 = .ok (.baload, 1) := by decide +kernel
theorem dX10_isItem_168 : decode cX10_isItem 168 = .ok (.bipush 59, 2) := by decide +kernel
theorem dX10_isItem_170 : decode cX10_isItem 170 = .ok (.if_icmp .ne 7, 3) := by decide +kernel
theorem dX10_isItem_173 : decode cX10_isItem 173 = .ok (.iconst 1, 1) := by decide +kernel
theorem dX10_isItem_174 : decode cX10_isItem 174 = .ok (.goto 4, 3) := by decide +kernel
theorem dX10_isItem_177 : decode cX10_isItem 177 = .ok (.iconst 0, 1) := by decide +kernel
theorem dX10_isItem_178 : decode cX10_isItem 178 = .ok (.istore_n 3, 1) := by decide +kernel
theorem dX10_isItem_179 : decode cX10_isItem 179 = .ok (.aload_n 0, 1) := by decide +kernel
theorem dX10_isItem_180 : decode cX10_isItem 180 = .ok (.dup, 1) := by decide +kernel
theorem dX10_isItem_181 : decode cX10_isItem 181 = .ok (.getfield 73, 3) := by decide +kernel
theorem dX10_isItem_184 : decode cX10_isItem 184 = .ok (.iconst 1, 1) := by decide +kernel
theorem dX10_isItem_185 : decode cX10_isItem 185 = .ok (.iadd, 1) := by decide +kernel
theorem dX10_isItem_186 : decode cX10_isItem 186 = .ok (.putfield 73, 3) := by decide +kernel
theorem dX10_isItem_189 : decode cX10_isItem 189 = .ok (.iload_n 3, 1) := by decide +kernel
theorem dX10_isItem_190 : decode cX10_isItem 190 = .ok (.ifCond .eq 15, 3) := by decide +kernel
theorem dX10_isItem_193 : decode cX10_isItem 193 = .ok (.aload_n 0, 1) := by decide +kernel
theorem dX10_isItem_194 : decode cX10_isItem 194 = .ok (.iload_n 1, 1) := by decide +kernel
theorem dX10_isItem_195 : decode cX10_isItem 195 = .ok (.invokevirtual 90, 3) := by decide +kernel
theorem dX10_isItem_198 : decode cX10_isItem 198 = .ok (.ifCond .eq 7, 3) := by decide +kernel
theorem dX10_isItem_201 : decode cX10_isItem 201 = .ok (.iconst 1, 1) := by decide +kernel
theorem dX10_isItem_202 : decode cX10_isItem 202 = .ok (.goto 4, 3) := by decide +kernel
theorem dX10_isItem_205 : decode cX10_isItem 205 = .ok (.iconst 0, 1) := by decide +kernel
theorem dX10_isItem_206 : decode cX10_isItem 206 = .ok (.ireturn, 1) := by decide +kernel
theorem dX10_isGood_0 : decode cX10_isGood 0 = .ok (.iload_n 1, 1) := by decide +kernel
theorem dX10_isGood_1 : decode cX10_isGood 1 = .ok (.bipush 119, 2) := by decide +kernel
theorem dX10_isGood_3 : decode cX10_isGood 3 = .ok (.if_icmp .ne 178, 3) := by decide +kernel
theorem dX10_isGood_6 : decode cX10_isGood 6 = .ok (.aload_n 0, 1) := by decide +kernel
theorem dX10_isGood_7 : decode cX10_isGood 7 = .ok (.getfield 54, 3) := by decide +kernel
theorem dX10_isGood_10 : decode cX10_isGood 10 = .ok (.iconst 0, 1) := by decide +kernel
theorem dX10_isGood_11 : decode cX10_isGood 11 = .ok (.iaload, 1) := by decide +kernel
theorem dX10_isGood_12 : decode cX10_isGood 12 = .ok (.bipush 6, 2) := by decide +kernel
theorem dX10_isGood_14 : decode cX10_isGood 14 = .ok (.aload_n 0, 1) := by decide +kernel
theorem dX10_isGood_15 : decode cX10_isGood 15 = .ok (.getfield 54, 3) := by decide +kernel
theorem dX10_isGood_18 : decode cX10_isGood 18 = .ok (.iconst 1, 1) := by decide +kernel
theorem dX10_isGood_19 : decode cX10_isGood 19 = .ok (.iaload, 1) := by decide +kernel
theorem dX10_isGood_20 : decode cX10_isGood 20 = .ok (.imul, 1) := by decide +kernel
theorem dX10_isGood_21 : decode cX10_isGood 21 = .ok (.iadd, 1) := by decide +kernel
theorem dX10_isGood_22 : decode cX10_isGood 22 = .ok (.bipush 24, 2) := by decide +kernel
theorem dX10_isGood_24 : decode cX10_isGood 24 = .ok (.aload_n 0, 1) := by decide +kernel
theorem dX10_isGood_25 : decode cX10_isGood 25 = .ok (.getfield 54, 3) := by decide +kernel
theorem dX10_isGood_28 : decode cX10_isGood 28 = .ok (.iconst 2, 1) := by decide +kernel
theorem dX10_isGood_29 : decode cX10_isGood 29 = .ok (.iaload, 1) := by decide +kernel
theorem dX10_isGood_30 : decode cX10_isGood 30 = .ok (.imul, 1) := by decide +kernel
theorem dX10_isGood_31 : decode cX10_isGood 31 = .ok (.iadd, 1) := by decide +kernel
theorem dX10_isGood_32 : decode cX10_isGood 32 = .ok (.istore_n 2, 1) := by decide +kernel
theorem dX10_isGood_33 : decode cX10_isGood 33 = .ok (.aload_n 0, 1) := by decide +kernel
theorem dX10_isGood_34 : decode cX10_isGood 34 = .ok (.iconst 0, 1) := by decide +kernel
theorem dX10_isGood_35 : decode cX10_isGood 35 = .ok (.iconst 0, 1) := by decide +kernel
theorem dX10_isGood_36 : decode cX10_isGood 36 = .ok (.iconst 5, 1) := by decide +kernel
theorem dX10_isGood_37 : decode cX10_isGood 37 = .ok (.invokevirtual 94, 3) := by decide +kernel
theorem dX10_isGood_40 : decode cX10_isGood 40 = .ok (.ifCond .eq 38, 3) := by decide +kernel
theorem dX10_isGood_43 : decode cX10_isGood 43 = .ok (.aload_n 0, 1) := by decide +kernel
theorem dX10_isGood_44 : decode cX10_isGood 44 = .ok (.iconst 1, 1) := by decide +kernel
theorem dX10_isGood_45 : decode cX10_isGood 45 = .ok (.iconst 0, 1) := by decide +kernel
theorem dX10_isGood_46 : decode cX10_isGood 46 = .ok (.iconst 3, 1) := by decide +kernel
theorem dX10_isGood_47 : decode cX10_isGood 47 = .ok (.invokevirtual 94, 3) := by decide +kernel
theorem dX10_isGood_50 : decode cX10_isGood 50 = .ok (.ifCond .eq 28, 3) := by decide +kernel
theorem dX10_isGood_53 : decode cX10_isGood 53 = .ok (.aload_n 0, 1) := by decide +kernel
theorem dX10_isGood_54 : decode cX10_isGood 54 = .ok (.iconst 2, 1) := by decide +kernel
theorem dX10_isGood_55 : decode cX10_isGood 55 = .ok (.iconst 0, 1) := by decide +kernel
theorem dX10_isGood_56 : decode cX10_isGood 56 = .ok (.iconst 2, 1) := by decide +kernel
theorem dX10_isGood_57 : decode cX10_isGood 57 = .ok (.invokevirtual 94, 3) := by decide +kernel
theorem dX10_isGood_60 : decode cX10_isGood 60 = .ok (.ifCond .eq 18, 3) := by decide +kernel
theorem dX10_isGood_63 : decode cX10_isGood 63 = .ok (.aload_n 0, 1) := by decide +kernel
theorem dX10_isGood_64 : decode cX10_isGood 64 = .ok (.getfield 17, 3) := by decide +kernel
theorem dX10_isGood_67 : decode cX10_isGood 67 = .ok (.iconst 1, 1) := by decide +kernel
theorem dX10_isGood_68 : decode cX10_isGood 68 = .ok (.iaload, 1) := by decide +kernel
theorem dX10_isGood_69 : decode cX10_isGood 69 = .ok (.bipush 8, 2) := by decide +kernel
theorem dX10_isGood_71 : decode cX10_isGood 71 = .ok (.if_icmp .ge 7, 3) := by decide +kernel
theorem dX10_isGood_74 : decode cX10_isGood 74 = .ok (.iconst 1, 1) := by decide +kernel
theorem dX10_isGood_75 : decode cX10_isGood 75 = .ok (.goto 4, 3) := by decide +kernel
theorem dX10_isGood_78 : decode cX10_isGood 78 = .ok (.iconst 0, 1) := by decide +kernel
theorem dX10_isGood_79 : decode cX10_isGood 79 = .ok (.istore_n 3, 1) := by decide +kernel
theorem dX10_isGood_80 : decode cX10_isGood 80 = .ok (.iconst 0, 1) := by decide +kernel
theorem dX10_isGood_81 : decode cX10_isGood 81 = .ok (.istore 4, 2) := by decide +kernel
theorem dX10_isGood_83 : decode cX10_isGood 83 = .ok (.iload 4, 2) := by decide +kernel
theorem dX10_isGood_85 : decode cX10_isGood 85 = .ok (.aload_n 0, 1) := by decide +kernel
theorem dX10_isGood_86 : decode cX10_isGood 86 = .ok (.getfield 17, 3) := by decide +kernel
theorem dX10_isGood_89 : decode cX10_isGood 89 = .ok (.iconst 1, 1) := by decide +kernel
theorem dX10_isGood_90 : decode cX10_isGood 90 = .ok (.iaload, 1) := by decide +kernel
theorem dX10_isGood_91 : decode cX10_isGood 91 = .ok (.if_icmp .ge 35, 3) := by decide +kernel
theorem dX10_isGood_94 : decode cX10_isGood 94 = .ok (.iload_n 3, 1) := by decide +kernel
theorem dX10_isGood_95 : decode cX10_isGood 95 = .ok (.ifCond .eq 31, 3) := by decide +kernel
theorem dX10_isGood_98 : decode cX10_isGood 98 = .ok (.aload_n 0, 1) := by decide +kernel
theorem dX10_isGood_99 : decode cX10_isGood 99 = .ok (.getfield 20, 3) := by decide +kernel
theorem dX10_isGood_102 : decode cX10_isGood 102 = .ok (.bipush 16, 2) := by decide +kernel
theorem dX10_isGood_104 : decode cX10_isGood 104 = .ok (.iconst 2, 1) := by decide +kernel
theorem dX10_isGood_105 : decode cX10_isGood 105 = .ok (.iload 4, 2) := by decide +kernel
theorem dX10_isGood_107 : decode cX10_isGood 107 = .ok (.imul, 1) := by decide +kernel
theorem dX10_isGood_108 : decode cX10_isGood 108 = .ok (.iadd, 1) := by decide +kernel
theorem dX10_isGood_109 : decode cX10_isGood 109 = .ok (.iaload, 1) := by decide +kernel
theorem dX10_isGood_110 : decode cX10_isGood 110 = .ok (.iload_n 2, 1) := by decide +kernel
theorem dX10_isGood_111 : decode cX10_isGood 111 = .ok (.if_icmp .eq 7, 3) := by decide +kernel
theorem dX10_isGood_114 : decode cX10_isGood 114 = .ok (.iconst 1, 1) := by decide +kernel
theorem dX10_isGood_115 : decode cX10_isGood 115 = .ok (.goto 4, 3) := by decide +kernel
theorem dX10_isGood_118 : decode cX10_isGood 118 = .ok (.iconst 0, 1) := by decide +kernel
theorem dX10_isGood_119 : decode cX10_isGood 119 = .ok (.istore_n 3, 1) := by decide +kernel
theorem dX10_isGood_120 : decode cX10_isGood 120 = .ok (.iinc 4 1, 3) := by decide +kernel
theorem dX10_isGood_123 : decode cX10_isGood 123 = .ok (.goto (-40), 3) := by decide +kernel
theorem dX10_isGood_126 : decode cX10_isGood 126 = .ok (.iload_n 3, 1) := by decide +kernel
theorem dX10_isGood_127 : decode cX10_isGood 127 = .ok (.ifCond .eq 52, 3) := by decide +kernel
theorem dX10_isGood_130 : decode cX10_isGood 130 = .ok (.aload_n 0, 1) := by decide +kernel
theorem dX10_isGood_131 : decode cX10_isGood 131 = .ok (.getfield 20, 3) := by decide +kernel
theorem dX10_isGood_134 : decode cX10_isGood 134 = .ok (.bipush 16, 2) := by decide +kernel
theorem dX10_isGood_136 : decode cX10_isGood 136 = .ok (.iconst 2, 1) := by decide +kernel
theorem dX10_isGood_137 : decode cX10_isGood 137 = .ok (.aload_n 0, 1) := by decide +kernel
theorem dX10_isGood_138 : decode cX10_isGood 138 = .ok (.getfield 17, 3) := by decide +kernel
theorem dX10_isGood_141 : decode cX10_isGood 141 = .ok (.iconst 1, 1) := by decide +kernel
theorem dX10_isGood_142 : decode cX10_isGood 142 = .ok (.iaload, 1) := by decide +kernel
theorem dX10_isGood_143 : decode cX10_isGood 143 = .ok (.imul, 1) := by decide +kernel
theorem dX10_isGood_144 : decode cX10_isGood 144 = .ok (.iadd, 1) := by decide +kernel
theorem dX10_isGood_145 : decode cX10_isGood 145 = .ok (.iload_n 2, 1) := by decide +kernel
theorem dX10_isGood_146 : decode cX10_isGood 146 = .ok (.iastore, 1) := by decide +kernel
theorem dX10_isGood_147 : decode cX10_isGood 147 = .ok (.aload_n 0, 1) := by decide +kernel
theorem dX10_isGood_148 : decode cX10_isGood 148 = .ok (.getfield 20, 3) := by decide +kernel
theorem dX10_isGood_151 : decode cX10_isGood 151 = .ok (.bipush 17, 2) := by decide +kernel
theorem dX10_isGood_153 : decode cX10_isGood 153 = .ok (.iconst 2, 1) := by decide +kernel
theorem dX10_isGood_154 : decode cX10_isGood 154 = .ok (.aload_n 0, 1) := by decide +kernel
theorem dX10_isGood_155 : decode cX10_isGood 155 = .ok (.getfield 17, 3) := by decide +kernel
theorem dX10_isGood_158 : decode cX10_isGood 158 = .ok (.iconst 1, 1) := by decide +kernel
theorem dX10_isGood_159 : decode cX10_isGood 159 = .ok (.iaload, 1) := by decide +kernel
theorem dX10_isGood_160 : decode cX10_isGood 160 = .ok (.imul, 1) := by decide +kernel
theorem dX10_isGood_161 : decode cX10_isGood 161 = .ok (.iadd, 1) := by decide +kernel
theorem dX10_isGood_162 : decode cX10_isGood 162 = .ok (.aload_n 0, 1) := by decide +kernel
theorem dX10_isGood_163 : decode cX10_isGood 163 = .ok (.getfield 54, 3) := by decide +kernel
theorem dX10_isGood_166 : decode cX10_isGood 166 = .ok (.iconst 3, 1) := by decide +kernel
theorem dX10_isGood_167 : decode cX10_isGood 167 = .ok (.iaload, 1) := by decide +kernel
theorem dX10_isGood_168 : decode cX10_isGood 168 = .ok (.iastore, 1) := by decide +kernel
theorem dX10_isGood_169 : decode cX10_isGood 169 = .ok (.aload_n 0, 1) := by decide +kernel
theorem dX10_isGood_170 : decode cX10_isGood 170 = .ok (.getfield 17, 3) := by decide +kernel
theorem dX10_isGood_173 : decode cX10_isGood 173 = .ok (.iconst 1, 1) := by decide +kernel
theorem dX10_isGood_174 : decode cX10_isGood 174 = .ok (.dup2, 1) := by decide +kernel
theorem dX10_isGood_175 : decode cX10_isGood 175 = .ok (.iaload, 1) := by decide +kernel
theorem dX10_isGood_176 : decode cX10_isGood 176 = .ok (.iconst 1, 1) := by decide +kernel
theorem dX10_isGood_177 : decode cX10_isGood 177 = .ok (.iadd, 1) := by decide +kernel
theorem dX10_isGood_178 : decode cX10_isGood 178 = .ok (.iastore, 1) := by decide +kernel
theorem dX10_isGood_179 : decode cX10_isGood 179 = .ok (.iload_n 3, 1) := by decide +kernel
theorem dX10_isGood_180 : decode cX10_isGood 180 = .ok (.ireturn, 1) := by decide +kernel
theorem dX10_isGood_181 : decode cX10_isGood 181 = .ok (.iload_n 1, 1) := by decide +kernel
theorem dX10_isGood_182 : decode cX10_isGood 182 = .ok (.bipush 98, 2) := by decide +kernel
theorem dX10_isGood_184 : decode cX10_isGood 184 = .ok (.if_icmp .ne 55, 3) := by decide +kernel
theorem dX10_isGood_187 : decode cX10_isGood 187 = .ok (.aload_n 0, 1) := by decide +kernel
theorem dX10_isGood_188 : decode cX10_isGood 188 = .ok (.getfield 13, 3) := by decide +kernel
theorem dX10_isGood_191 : decode cX10_isGood 191 = .ok (.iconst 2, 1) := by decide +kernel
theorem dX10_isGood_192 : decode cX10_isGood 192 = .ok (.aload_n 0, 1) := by decide +kernel
theorem dX10_isGood_193 : decode cX10_isGood 193 = .ok (.getfield 54, 3) := by decide +kernel
theorem dX10_isGood_196 : decode cX10_isGood 196 = .ok (.iconst 0, 1) := by decide +kernel
theorem dX10_isGood_197 : decode cX10_isGood 197 = .ok (.iaload, 1) := by decide +kernel
theorem dX10_isGood_198 : decode cX10_isGood 198 = .ok (.iastore, 1) := by decide +kernel
theorem dX10_isGood_199 : decode cX10_isGood 199 = .ok (.aload_n 0, 1) := by decide +kernel
theorem dX10_isGood_200 : decode cX10_isGood 200 = .ok (.getfield 13, 3) := by decide +kernel
theorem dX10_isGood_203 : decode cX10_isGood 203 = .ok (.iconst 3, 1) := by decide +kernel
theorem dX10_isGood_204 : decode cX10_isGood 204 = .ok (.aload_n 0, 1) := by decide +kernel
theorem dX10_isGood_205 : decode cX10_isGood 205 = .ok (.getfield 54, 3) := by decide +kernel
theorem dX10_isGood_208 : decode cX10_isGood 208 = .ok (.iconst 1, 1) := by decide +kernel
theorem dX10_isGood_209 : decode cX10_isGood 209 = .ok (.iaload, 1) := by decide +kernel
theorem dX10_isGood_210 : decode cX10_isGood 210 = .ok (.iastore, 1) := by decide +kernel
theorem dX10_isGood_211 : decode cX10_isGood 211 = .ok (.aload_n 0, 1) := by decide +kernel
theorem dX10_isGood_212 : decode cX10_isGood 212 = .ok (.iconst 0, 1) := by decide +kernel
theorem dX10_isGood_213 : decode cX10_isGood 213 = .ok (.iconst 1, 1) := by decide +kernel
theorem dX10_isGood_214 : decode cX10_isGood 214 = .ok (.bipush 9, 2) := by decide +kernel
theorem dX10_isGood_216 : decode cX10_isGood 216 = .ok (.invokevirtual 94, 3) := by decide +kernel
theorem dX10_isGood_219 : decode cX10_isGood 219 = .ok (.ifCond .eq 18, 3) := by decide +kernel
theorem dX10_isGood_222 : decode cX10_isGood 222 = .ok (.aload_n 0, 1) := by decide +kernel
theorem dX10_isGood_223 : decode cX10_isGood 223 = .ok (.iconst 1, 1) := by decide +kernel
theorem dX10_isGood_224 : decode cX10_isGood 224 = .ok (.iconst 1, 1) := by decide +kernel
theorem dX10_isGood_225 : decode cX10_isGood 225 = .ok (.bipush 9, 2) := by decide +kernel
theorem dX10_isGood_227 : decode cX10_isGood 227 = .ok (.invokevirtual 94, 3) := by decide +kernel
theorem dX10_isGood_230 : decode cX10_isGood 230 = .ok (.ifCond .eq 7, 3) := by decide +kernel
theorem dX10_isGood_233 : decode cX10_isGood 233 = .ok (.iconst 1, 1) := by decide +kernel
theorem dX10_isGood_234 : decode cX10_isGood 234 = .ok (.goto 4, 3) := by decide +kernel
theorem dX10_isGood_237 : decode cX10_isGood 237 = .ok (.iconst 0, 1) := by decide +kernel
theorem dX10_isGood_238 : decode cX10_isGood 238 = .ok (.ireturn, 1) := by decide +kernel
theorem dX10_isGood_239 : decode cX10_isGood 239 = .ok (.iload_n 1, 1) := by decide +kernel
theorem dX10_isGood_240 : decode cX10_isGood 240 = .ok (.bipush 99, 2) := by decide +kernel
theorem dX10_isGood_242 : decode cX10_isGood 242 = .ok (.if_icmp .ne 93, 3) := by decide +kernel
theorem dX10_isGood_245 : decode cX10_isGood 245 = .ok (.aload_n 0, 1) := by decide +kernel
theorem dX10_isGood_246 : decode cX10_isGood 246 = .ok (.iconst 0, 1) := by decide +kernel
theorem dX10_isGood_247 : decode cX10_isGood 247 = .ok (.iconst 0, 1) := by decide +kernel
theorem dX10_isGood_248 : decode cX10_isGood 248 = .ok (.bipush 9, 2) := by decide +kernel
theorem dX10_isGood_250 : decode cX10_isGood 250 = .ok (.invokevirtual 94, 3) := by decide +kernel
theorem dX10_isGood_253 : decode cX10_isGood 253 = .ok (.ifCond .eq 24, 3) := by decide +kernel
theorem dX10_isGood_256 : decode cX10_isGood 256 = .ok (.aload_n 0, 1) := by decide +kernel
theorem dX10_isGood_257 : decode cX10_isGood 257 = .ok (.iconst 1, 1) := by decide +kernel
theorem dX10_isGood_258 : decode cX10_isGood 258 = .ok (.iconst 1, 1) := by decide +kernel
theorem dX10_isGood_259 : decode cX10_isGood 259 = .ok (.bipush 6, 2) := by decide +kernel
theorem dX10_isGood_261 : decode cX10_isGood 261 = .ok (.invokevirtual 94, 3) := by decide +kernel
theorem dX10_isGood_264 : decode cX10_isGood 264 = .ok (.ifCond .eq 13, 3) := by decide +kernel
theorem dX10_isGood_267 : decode cX10_isGood 267 = .ok (.aload_n 0, 1) := by decide +kernel
theorem dX10_isGood_268 : decode cX10_isGood 268 = .ok (.getfield 23, 3) := by decide +kernel
theorem dX10_isGood_271 : decode cX10_isGood 271 = .ok (.iconst 1, 1) := by decide +kernel
theorem dX10_isGood_272 : decode cX10_isGood 272 = .ok (.iaload, 1) := by decide +kernel
theorem dX10_isGood_273 : decode cX10_isGood 273 = .ok (.iconst 5, 1) := by decide +kernel
theorem dX10_isGood_274 : decode cX10_isGood 274 = .ok (.if_icmp .ne 5, 3) := by decide +kernel
theorem dX10_isGood_277 : decode cX10_isGood 277 = .ok (.iconst 0, 1) := by decide +kernel
theorem dX10_isGood_278 : decode cX10_isGood 278 = .ok (.ireturn, 1) := by decide +kernel
theorem dX10_isGood_279 : decode cX10_isGood 279 = .ok (.aload_n 0, 1) := by decide +kernel
theorem dX10_isGood_280 : decode cX10_isGood 280 = .ok (.getfield 26, 3) := by decide +kernel
theorem dX10_isGood_283 : decode cX10_isGood 283 = .ok (.bipush 10, 2) := by decide +kernel
theorem dX10_isGood_285 : decode cX10_isGood 285 = .ok (.iconst 2, 1) := by decide +kernel
theorem dX10_isGood_286 : decode cX10_isGood 286 = .ok (.aload_n 0, 1) := by decide +kernel
theorem dX10_isGood_287 : decode cX10_isGood 287 = .ok (.getfield 23, 3) := by decide +kernel
theorem dX10_isGood_290 : decode cX10_isGood 290 = .ok (.iconst 1, 1) := by decide +kernel
theorem dX10_isGood_291 : decode cX10_isGood 291 = .ok (.iaload, 1) := by decide +kernel
theorem dX10_isGood_292 : decode cX10_isGood 292 = .ok (.imul, 1) := by decide +kernel
theorem dX10_isGood_293 : decode cX10_isGood 293 = .ok (.iadd, 1) := by decide +kernel
theorem dX10_isGood_294 : decode cX10_isGood 294 = .ok (.aload_n 0, 1) := by decide +kernel
theorem dX10_isGood_295 : decode cX10_isGood 295 = .ok (.getfield 54, 3) := by decide +kernel
theorem dX10_isGood_298 : decode cX10_isGood 298 = .ok (.iconst 0, 1) := by decide +kernel
theorem dX10_isGood_299 : decode cX10_isGood 299 = .ok (.iaload, 1) := by decide +kernel
theorem dX10_isGood_300 : decode cX10_isGood 300 = .ok (.iastore, 1) := by decide +kernel
theorem dX10_isGood_301 : decode cX10_isGood 301 = .ok (.aload_n 0, 1) := by decide +kernel
theorem dX10_isGood_302 : decode cX10_isGood 302 = .ok (.getfield 26, 3) := by decide +kernel
theorem dX10_isGood_305 : decode cX10_isGood 305 = .ok (.bipush 11, 2) := by decide +kernel
theorem dX10_isGood_307 : decode cX10_isGood 307 = .ok (.iconst 2, 1) := by decide +kernel
theorem dX10_isGood_308 : decode cX10_isGood 308 = .ok (.aload_n 0, 1) := by decide +kernel
theorem dX10_isGood_309 : decode cX10_isGood 309 = .ok (.getfield 23, 3) := by decide +kernel
theorem dX10_isGood_312 : decode cX10_isGood 312 = .ok (.iconst 1, 1) := by decide +kernel
theorem dX10_isGood_313 : decode cX10_isGood 313 = .ok (.iaload, 1) := by decide +kernel
theorem dX10_isGood_314 : decode cX10_isGood 314 = .ok (.imul, 1) := by decide +kernel
theorem dX10_isGood_315 : decode cX10_isGood 315 = .ok (.iadd, 1) := by decide +kernel
theorem dX10_isGood_316 : decode cX10_isGood 316 = .ok (.aload_n 0, 1) := by decide +kernel
theorem dX10_isGood_317 : decode cX10_isGood 317 = .ok (.getfield 54, 3) := by decide +kernel
theorem dX10_isGood_320 : decode cX10_isGood 320 = .ok (.iconst 1, 1) := by decide +kernel
theorem dX10_isGood_321 : decode cX10_isGood 321 = .ok (.iaload, 1) := by decide +kernel
theorem dX10_isGood_322 : decode cX10_isGood 322 = .ok (.iastore, 1) := by decide +kernel
theorem dX10_isGood_323 : decode cX10_isGood 323 = .ok (.aload_n 0, 1) := by decide +kernel
theorem dX10_isGood_324 : decode cX10_isGood 324 = .ok (.getfield 23, 3) := by decide +kernel
theorem dX10_isGood_327 : decode cX10_isGood 327 = .ok (.iconst 1, 1) := by decide +kernel
theorem dX10_isGood_328 : decode cX10_isGood 328 = .ok (.dup2, 1) := by decide +kernel
theorem dX10_isGood_329 : decode cX10_isGood 329 = .ok (.iaload, 1) := by decide +kernel
theorem dX10_isGood_330 : decode cX10_isGood 330 = .ok (.iconst 1, 1) := by decide +kernel
theorem dX10_isGood_331 : decode cX10_isGood 331 = .ok (.iadd, 1) := by decide +kernel
theorem dX10_isGood_332 : decode cX10_isGood 332 = .ok (.iastore, 1) := by decide +kernel
theorem dX10_isGood_333 : decode cX10_isGood 333 = .ok (.iconst 1, 1) := by decide +kernel
theorem dX10_isGood_334 : decode cX10_isGood 334 = .ok (.ireturn, 1) := by decide +kernel
theorem dX10_isGood_335 : decode cX10_isGood 335 = .ok (.aload_n 0, 1) := by decide +kernel
theorem dX10_isGood_336 : decode cX10_isGood 336 = .ok (.iconst 0, 1) := by decide +kernel
theorem dX10_isGood_337 : decode cX10_isGood 337 = .ok (.iconst 0, 1) := by decide +kernel
theorem dX10_isGood_338 : decode cX10_isGood 338 = .ok (.bipush 63, 2) := by decide +kernel
theorem dX10_isGood_340 : decode cX10_isGood 340 = .ok (.invokevirtual 94, 3) := by decide +kernel
theorem dX10_isGood_343 : decode cX10_isGood 343 = .ok (.ifCond .eq 13, 3) := by decide +kernel
theorem dX10_isGood_346 : decode cX10_isGood 346 = .ok (.aload_n 0, 1) := by decide +kernel
theorem dX10_isGood_347 : decode cX10_isGood 347 = .ok (.getfield 29, 3) := by decide +kernel
theorem dX10_isGood_350 : decode cX10_isGood 350 = .ok (.iconst 1, 1) := by decide +kernel
theorem dX10_isGood_351 : decode cX10_isGood 351 = .ok (.iaload, 1) := by decide +kernel
theorem dX10_isGood_352 : decode cX10_isGood 352 = .ok (.iconst 5, 1) := by decide +kernel
theorem dX10_isGood_353 : decode cX10_isGood 353 = .ok (.if_icmp .ne 5, 3) := by decide +kernel
theorem dX10_isGood_356 : decode cX10_isGood 356 = .ok (.iconst 0, 1) := by decide +kernel
theorem dX10_isGood_357 : decode cX10_isGood 357 = .ok (.ireturn, 1) := by decide +kernel
theorem dX10_isGood_358 : decode cX10_isGood 358 = .ok (.aload_n 0, 1) := by decide +kernel
theorem dX10_isGood_359 : decode cX10_isGood 359 = .ok (.getfield 32, 3) := by decide +kernel
theorem dX10_isGood_362 : decode cX10_isGood 362 = .ok (.iconst 5, 1) := by decide +kernel
theorem dX10_isGood_363 : decode cX10_isGood 363 = .ok (.aload_n 0, 1) := by decide +kernel
theorem dX10_isGood_364 : decode cX10_isGood 364 = .ok (.getfield 29, 3) := by decide +kernel
theorem dX10_isGood_367 : decode cX10_isGood 367 = .ok (.iconst 1, 1) := by decide +kernel
theorem dX10_isGood_368 : decode cX10_isGood 368 = .ok (.iaload, 1) := by decide +kernel
theorem dX10_isGood_369 : decode cX10_isGood 369 = .ok (.iadd, 1) := by decide +kernel
theorem dX10_isGood_370 : decode cX10_isGood 370 = .ok (.aload_n 0, 1) := by decide +kernel
theorem dX10_isGood_371 : decode cX10_isGood 371 = .ok (.getfield 54, 3) := by decide +kernel
theorem dX10_isGood_374 : decode cX10_isGood 374 = .ok (.iconst 0, 1) := by decide +kernel
theorem dX10_isGood_375 : decode cX10_isGood 375 = .ok (.iaload, 1) := by decide +kernel
theorem dX10_isGood_376 : decode cX10_isGood 376 = .ok (.iastore, 1) := by decide +kernel
theorem dX10_isGood_377 : decode cX10_isGood 377 = .ok (.aload_n 0, 1) := by decide +kernel
theorem dX10_isGood_378 : decode cX10_isGood 378 = .ok (.getfield 29, 3) := by decide +kernel
theorem dX10_isGood_381 : decode cX10_isGood 381 = .ok (.iconst 1, 1) := by decide +kernel
theorem dX10_isGood_382 : decode cX10_isGood 382 = .ok (.dup2, 1) := by decide +kernel
theorem dX10_isGood_383 : decode cX10_isGood 383 = .ok (.iaload, 1) := by decide +kernel
theorem dX10_isGood_384 : decode cX10_isGood 384 = .ok (.iconst 1, 1) := by decide +kernel
theorem dX10_isGood_385 : decode cX10_isGood 385 = .ok (.iadd, 1) := by decide +kernel
theorem dX10_isGood_386 : decode cX10_isGood 386 = .ok (.iastore, 1) := by decide +kernel
theorem dX10_isGood_387 : decode cX10_isGood 387 = .ok (.iconst 1, 1) := by decide +kernel
theorem dX10_isGood_388 : decode cX10_isGood 388 = .ok (.ireturn, 1) := by decide +kernel
theorem dX10_begins_0 : decode cX10_begins 0 = .ok (.aload_n 0, 1) := by decide +kernel
theorem dX10_begins_1 : decode cX10_begins 1 = .ok (.getfield 17, 3) := by decide +kernel
theorem dX10_begins_4 : decode cX10_begins 4 = .ok (.iconst 1, 1) := by decide +kernel
theorem dX10_begins_5 : decode cX10_begins 5 = .ok (.iconst 0, 1) := by decide +kernel
theorem dX10_begins_6 : decode cX10_begins 6 = .ok (.iastore, 1) := by decide +kernel
theorem dX10_begins_7 : decode cX10_begins 7 = .ok (.aload_n 0, 1) := by decide +kernel
theorem dX10_begins_8 : decode cX10_begins 8 = .ok (.getfield 23, 3) := by decide +kernel
theorem dX10_begins_11 : decode cX10_begins 11 = .ok (.iconst 1, 1) := by decide +kernel
theorem dX10_begins_12 : decode cX10_begins 12 = .ok (.iconst 0, 1) := by decide +kernel
theorem dX10_begins_13 : decode cX10_begins 13 = .ok (.iastore, 1) := by decide +kernel
theorem dX10_begins_14 : decode cX10_begins 14 = .ok (.aload_n 0, 1) := by decide +kernel
theorem dX10_begins_15 : decode cX10_begins 15 = .ok (.getfield 29, 3) := by decide +kernel
theorem dX10_begins_18 : decode cX10_begins 18 = .ok (.iconst 1, 1) := by decide +kernel
theorem dX10_begins_19 : decode cX10_begins 19 = .ok (.iconst 0, 1) := by decide +kernel
theorem dX10_begins_20 : decode cX10_begins 20 = .ok (.iastore, 1) := by decide +kernel
theorem dX10_begins_21 : decode cX10_begins 21 = .ok (.aload_n 0, 1) := by decide +kernel
theorem dX10_begins_22 : decode cX10_begins 22 = .ok (.getfield 13, 3) := by decide +kernel
theorem dX10_begins_25 : decode cX10_begins 25 = .ok (.iconst 2, 1) := by decide +kernel
theorem dX10_begins_26 : decode cX10_begins 26 = .ok (.iconst 2, 1) := by decide +kernel
theorem dX10_begins_27 : decode cX10_begins 27 = .ok (.iastore, 1) := by decide +kernel
theorem dX10_begins_28 : decode cX10_begins 28 = .ok (.aload_n 0, 1) := by decide +kernel
theorem dX10_begins_29 : decode cX10_begins 29 = .ok (.getfield 13, 3) := by decide +kernel
theorem dX10_begins_32 : decode cX10_begins 32 = .ok (.iconst 3, 1) := by decide +kernel
theorem dX10_begins_33 : decode cX10_begins 33 = .ok (.iconst 3, 1) := by decide +kernel
theorem dX10_begins_34 : decode cX10_begins 34 = .ok (.iastore, 1) := by decide +kernel
theorem dX10_begins_35 : decode cX10_begins 35 = .ok (.return_, 1) := by decide +kernel
theorem dX10_takes_0 : decode cX10_takes 0 = .ok (.aload_n 0, 1) := by decide +kernel
theorem dX10_takes_1 : decode cX10_takes 1 = .ok (.getfield 17, 3) := by decide +kernel
theorem dX10_takes_4 : decode cX10_takes 4 = .ok (.iconst 0, 1) := by decide +kernel
theorem dX10_takes_5 : decode cX10_takes 5 = .ok (.aload_n 0, 1) := by decide +kernel
theorem dX10_takes_6 : decode cX10_takes 6 = .ok (.getfield 17, 3) := by decide +kernel
theorem dX10_takes_9 : decode cX10_takes 9 = .ok (.iconst 1, 1) := by decide +kernel
theorem dX10_takes_10 : decode cX10_takes 10 = .ok (.iaload, 1) := by decide +kernel
theorem dX10_takes_11 : decode cX10_takes 11 = .ok (.iastore, 1) := by decide +kernel
theorem dX10_takes_12 : decode cX10_takes 12 = .ok (.aload_n 0, 1) := by decide +kernel
theorem dX10_takes_13 : decode cX10_takes 13 = .ok (.getfield 23, 3) := by decide +kernel
theorem dX10_takes_16 : decode cX10_takes 16 = .ok (.iconst 0, 1) := by decide +kernel
theorem dX10_takes_17 : decode cX10_takes 17 = .ok (.aload_n 0, 1) := by decide +kernel
theorem dX10_takes_18 : decode cX10_takes 18 = .ok (.getfield 23, 3) := by decide +kernel
theorem dX10_takes_21 : decode cX10_takes 21 = .ok (.iconst 1, 1) := by decide +kernel
theorem dX10_takes_22 : decode cX10_takes 22 = .ok (.iaload, 1) := by decide +kernel
theorem dX10_takes_23 : decode cX10_takes 23 = .ok (.iastore, 1) := by decide +kernel
theorem dX10_takes_24 : decode cX10_takes 24 = .ok (.aload_n 0, 1) := by decide +kernel
theorem dX10_takes_25 : decode cX10_takes 25 = .ok (.getfield 29, 3) := by decide +kernel
theorem dX10_takes_28 : decode cX10_takes 28 = .ok (.iconst 0, 1) := by decide +kernel
theorem dX10_takes_29 : decode cX10_takes 29 = .ok (.aload_n 0, 1) := by decide +kernel
theorem dX10_takes_30 : decode cX10_takes 30 = .ok (.getfield 29, 3) := by decide +kernel
theorem dX10_takes_33 : decode cX10_takes 33 = .ok (.iconst 1, 1) := by decide +kernel
theorem dX10_takes_34 : decode cX10_takes 34 = .ok (.iaload, 1) := by decide +kernel
theorem dX10_takes_35 : decode cX10_takes 35 = .ok (.iastore, 1) := by decide +kernel
theorem dX10_takes_36 : decode cX10_takes 36 = .ok (.aload_n 0, 1) := by decide +kernel
theorem dX10_takes_37 : decode cX10_takes 37 = .ok (.getfield 13, 3) := by decide +kernel
theorem dX10_takes_40 : decode cX10_takes 40 = .ok (.iconst 0, 1) := by decide +kernel
theorem dX10_takes_41 : decode cX10_takes 41 = .ok (.aload_n 0, 1) := by decide +kernel
theorem dX10_takes_42 : decode cX10_takes 42 = .ok (.getfield 13, 3) := by decide +kernel
theorem dX10_takes_45 : decode cX10_takes 45 = .ok (.iconst 2, 1) := by decide +kernel
theorem dX10_takes_46 : decode cX10_takes 46 = .ok (.iaload, 1) := by decide +kernel
theorem dX10_takes_47 : decode cX10_takes 47 = .ok (.iastore, 1) := by decide +kernel
theorem dX10_takes_48 : decode cX10_takes 48 = .ok (.aload_n 0, 1) := by decide +kernel
theorem dX10_takes_49 : decode cX10_takes 49 = .ok (.getfield 13, 3) := by decide +kernel
theorem dX10_takes_52 : decode cX10_takes 52 = .ok (.iconst 1, 1) := by decide +kernel
theorem dX10_takes_53 : decode cX10_takes 53 = .ok (.aload_n 0, 1) := by decide +kernel
theorem dX10_takes_54 : decode cX10_takes 54 = .ok (.getfield 13, 3) := by decide +kernel
theorem dX10_takes_57 : decode cX10_takes 57 = .ok (.iconst 3, 1) := by decide +kernel
theorem dX10_takes_58 : decode cX10_takes 58 = .ok (.iaload, 1) := by decide +kernel
theorem dX10_takes_59 : decode cX10_takes 59 = .ok (.iastore, 1) := by decide +kernel
theorem dX10_takes_60 : decode cX10_takes 60 = .ok (.iconst 0, 1) := by decide +kernel
theorem dX10_takes_61 : decode cX10_takes 61 = .ok (.istore_n 1, 1) := by decide +kernel
theorem dX10_takes_62 : decode cX10_takes 62 = .ok (.iload_n 1, 1) := by decide +kernel
theorem dX10_takes_63 : decode cX10_takes 63 = .ok (.bipush 16, 2) := by decide +kernel
theorem dX10_takes_65 : decode cX10_takes 65 = .ok (.if_icmp .ge 64, 3) := by decide +kernel
theorem dX10_takes_68 : decode cX10_takes 68 = .ok (.aload_n 0, 1) := by decide +kernel
theorem dX10_takes_69 : decode cX10_takes 69 = .ok (.getfield 20, 3) := by decide +kernel
theorem dX10_takes_72 : decode cX10_takes 72 = .ok (.iload_n 1, 1) := by decide +kernel
theorem dX10_takes_73 : decode cX10_takes 73 = .ok (.aload_n 0, 1) := by decide +kernel
theorem dX10_takes_74 : decode cX10_takes 74 = .ok (.getfield 20, 3) := by decide +kernel
theorem dX10_takes_77 : decode cX10_takes 77 = .ok (.bipush 16, 2) := by decide +kernel
theorem dX10_takes_79 : decode cX10_takes 79 = .ok (.iload_n 1, 1) := by decide +kernel
theorem dX10_takes_80 : decode cX10_takes 80 = .ok (.iadd, 1) := by decide +kernel
theorem dX10_takes_81 : decode cX10_takes 81 = .ok (.iaload, 1) := by decide +kernel
theorem dX10_takes_82 : decode cX10_takes 82 = .ok (.iastore, 1) := by decide +kernel
theorem dX10_takes_83 : decode cX10_takes 83 = .ok (.iload_n 1, 1) := by decide +kernel
theorem dX10_takes_84 : decode cX10_takes 84 = .ok (.bipush 10, 2) := by decide +kernel
theorem dX10_takes_86 : decode cX10_takes 86 = .ok (.if_icmp .ge 18, 3) := by decide +kernel
theorem dX10_takes_89 : decode cX10_takes 89 = .ok (.aload_n 0, 1) := by decide +kernel
theorem dX10_takes_90 : decode cX10_takes 90 = .ok (.getfield 26, 3) := by decide +kernel
theorem dX10_takes_93 : decode cX10_takes 93 = .ok (.iload_n 1, 1) := by decide +kernel
theorem dX10_takes_94 : decode cX10_takes 94 = .ok (.aload_n 0, 1) := by decide +kernel
theorem dX10_takes_95 : decode cX10_takes 95 = .ok (.getfield 26, 3) := by decide +kernel
theorem dX10_takes_98 : decode cX10_takes 98 = .ok (.bipush 10, 2) := by decide +kernel
theorem dX10_takes_100 : decode cX10_takes 100 = .ok (.iload_n 1, 1) := by decide +kernel
theorem dX10_takes_101 : decode cX10_takes 101 = .ok (.iadd, 1) := by decide +kernel
theorem dX10_takes_102 : decode cX10_takes 102 = .ok (.iaload, 1) := by decide +kernel
theorem dX10_takes_103 : decode cX10_takes 103 = .ok (.iastore, 1) := by decide +kernel
theorem dX10_takes_104 : decode cX10_takes 104 = .ok (.iload_n 1, 1) := by decide +kernel
theorem dX10_takes_105 : decode cX10_takes 105 = .ok (.iconst 5, 1) := by decide +kernel
theorem dX10_takes_106 : decode cX10_takes 106 = .ok (.if_icmp .ge 17, 3) := by decide +kernel
theorem dX10_takes_109 : decode cX10_takes 109 = .ok (.aload_n 0, 1) := by decide +kernel
theorem dX10_takes_110 : decode cX10_takes 110 = .ok (.getfield 32, 3) := by decide +kernel
theorem dX10_takes_113 : decode cX10_takes 113 = .ok (.iload_n 1, 1) := by decide +kernel
theorem dX10_takes_114 : decode cX10_takes 114 = .ok (.aload_n 0, 1) := by decide +kernel
theorem dX10_takes_115 : decode cX10_takes 115 = .ok (.getfield 32, 3) := by decide +kernel
theorem dX10_takes_118 : decode cX10_takes 118 = .ok (.iconst 5, 1) := by decide +kernel
theorem dX10_takes_119 : decode cX10_takes 119 = .ok (.iload_n 1, 1) := by decide +kernel
theorem dX10_takes_120 : decode cX10_takes 120 = .ok (.iadd, 1) := by decide +kernel
theorem dX10_takes_121 : decode cX10_takes 121 = .ok (.iaload, 1) := by decide +kernel
theorem dX10_takes_122 : decode cX10_takes 122 = .ok (.iastore, 1) := by decide +kernel
theorem dX10_takes_123 : decode cX10_takes 123 = .ok (.iinc 1 1, 3) := by decide +kernel
theorem dX10_takes_126 : decode cX10_takes 126 = .ok (.goto (-64), 3) := by decide +kernel
theorem dX10_takes_129 : decode cX10_takes 129 = .ok (.aload_n 0, 1) := by decide +kernel
theorem dX10_takes_130 : decode cX10_takes 130 = .ok (.getfield 35, 3) := by decide +kernel
theorem dX10_takes_133 : decode cX10_takes 133 = .ok (.iconst 0, 1) := by decide +kernel
theorem dX10_takes_134 : decode cX10_takes 134 = .ok (.iconst 0, 1) := by decide +kernel
theorem dX10_takes_135 : decode cX10_takes 135 = .ok (.iastore, 1) := by decide +kernel
theorem dX10_takes_136 : decode cX10_takes 136 = .ok (.aload_n 0, 1) := by decide +kernel
theorem dX10_takes_137 : decode cX10_takes 137 = .ok (.getfield 41, 3) := by decide +kernel
theorem dX10_takes_140 : decode cX10_takes 140 = .ok (.iconst 0, 1) := by decide +kernel
theorem dX10_takes_141 : decode cX10_takes 141 = .ok (.iconst 0, 1) := by decide +kernel
theorem dX10_takes_142 : decode cX10_takes 142 = .ok (.iastore, 1) := by decide +kernel
theorem dX10_takes_143 : decode cX10_takes 143 = .ok (.aload_n 0, 1) := by decide +kernel
theorem dX10_takes_144 : decode cX10_takes 144 = .ok (.iconst 0, 1) := by decide +kernel
theorem dX10_takes_145 : decode cX10_takes 145 = .ok (.putfield 98, 3) := by decide +kernel
theorem dX10_takes_148 : decode cX10_takes 148 = .ok (.aload_n 0, 1) := by decide +kernel
theorem dX10_takes_149 : decode cX10_takes 149 = .ok (.iconst 0, 1) := by decide +kernel
theorem dX10_takes_150 : decode cX10_takes 150 = .ok (.putfield 101, 3) := by decide +kernel
theorem dX10_takes_153 : decode cX10_takes 153 = .ok (.return_, 1) := by decide +kernel
theorem dX10_fault_0 : decode cX10_fault 0 = .ok (.aload_n 0, 1) := by decide +kernel
theorem dX10_fault_1 : decode cX10_fault 1 = .ok (.iconst 0, 1) := by decide +kernel
theorem dX10_fault_2 : decode cX10_fault 2 = .ok (.putfield 73, 3) := by decide +kernel
theorem dX10_fault_5 : decode cX10_fault 5 = .ok (.aload_n 0, 1) := by decide +kernel
theorem dX10_fault_6 : decode cX10_fault 6 = .ok (.invokevirtual 57, 3) := by decide +kernel
theorem dX10_fault_9 : decode cX10_fault 9 = .ok (.aload_n 0, 1) := by decide +kernel
theorem dX10_fault_10 : decode cX10_fault 10 = .ok (.getfield 73, 3) := by decide +kernel
theorem dX10_fault_13 : decode cX10_fault 13 = .ok (.aload_n 0, 1) := by decide +kernel
theorem dX10_fault_14 : decode cX10_fault 14 = .ok (.getfield 69, 3) := by decide +kernel
theorem dX10_fault_17 : decode cX10_fault 17 = .ok (.if_icmp .ge 20, 3) := by decide +kernel
theorem dX10_fault_20 : decode cX10_fault 20 = .ok (.aload_n 0, 1) := by decide +kernel
theorem dX10_fault_21 : decode cX10_fault 21 = .ok (.getfield 73, 3) := by decide +kernel
theorem dX10_fault_24 : decode cX10_fault 24 = .ok (.istore_n 1, 1) := by decide +kernel
theorem dX10_fault_25 : decode cX10_fault 25 = .ok (.aload_n 0, 1) := by decide +kernel
theorem dX10_fault_26 : decode cX10_fault 26 = .ok (.invokevirtual 104, 3) := by decide +kernel
theorem dX10_fault_29 : decode cX10_fault 29 = .ok (.ifCond .ne 5, 3) := by decide +kernel
theorem dX10_fault_32 : decode cX10_fault 32 = .ok (.iload_n 1, 1) := by decide +kernel
theorem dX10_fault_33 : decode cX10_fault 33 = .ok (.ireturn, 1) := by decide +kernel
theorem dX10_fault_34 : decode cX10_fault 34 = .ok (.goto (-25), 3) := by decide +kernel
theorem dX10_fault_37 : decode cX10_fault 37 = .ok (.bipush (-4), 2) := by decide +kernel
theorem dX10_fault_39 : decode cX10_fault 39 = .ok (.ireturn, 1) := by decide +kernel
theorem dX10_lay_0 : decode cX10_lay 0 = .ok (.aload_n 0, 1) := by decide +kernel
theorem dX10_lay_1 : decode cX10_lay 1 = .ok (.invokevirtual 108, 3) := by decide +kernel
theorem dX10_lay_4 : decode cX10_lay 4 = .ok (.bipush (-4), 2) := by decide +kernel
theorem dX10_lay_6 : decode cX10_lay 6 = .ok (.if_icmp .ne 12, 3) := by decide +kernel
theorem dX10_lay_9 : decode cX10_lay 9 = .ok (.aload_n 0, 1) := by decide +kernel
theorem dX10_lay_10 : decode cX10_lay 10 = .ok (.getfield 17, 3) := by decide +kernel
theorem dX10_lay_13 : decode cX10_lay 13 = .ok (.iconst 1, 1) := by decide +kernel
theorem dX10_lay_14 : decode cX10_lay 14 = .ok (.iaload, 1) := by decide +kernel
theorem dX10_lay_15 : decode cX10_lay 15 = .ok (.ifCond .ne 6, 3) := by decide +kernel
theorem dX10_lay_18 : decode cX10_lay 18 = .ok (.bipush (-2), 2) := by decide +kernel
theorem dX10_lay_20 : decode cX10_lay 20 = .ok (.ireturn, 1) := by decide +kernel
theorem dX10_lay_21 : decode cX10_lay 21 = .ok (.aload_n 0, 1) := by decide +kernel
theorem dX10_lay_22 : decode cX10_lay 22 = .ok (.invokevirtual 60, 3) := by decide +kernel
theorem dX10_lay_25 : decode cX10_lay 25 = .ok (.aload_n 0, 1) := by decide +kernel
theorem dX10_lay_26 : decode cX10_lay 26 = .ok (.getfield 17, 3) := by decide +kernel
theorem dX10_lay_29 : decode cX10_lay 29 = .ok (.iconst 0, 1) := by decide +kernel
theorem dX10_lay_30 : decode cX10_lay 30 = .ok (.iaload, 1) := by decide +kernel
theorem dX10_lay_31 : decode cX10_lay 31 = .ok (.ireturn, 1) := by decide +kernel
theorem dX10_isWord_0 : decode cX10_isWord 0 = .ok (.iload_n 1, 1) := by decide +kernel
theorem dX10_isWord_1 : decode cX10_isWord 1 = .ok (.i2l, 1) := by decide +kernel
theorem dX10_isWord_2 : decode cX10_isWord 2 = .ok (.lconst 0, 1) := by decide +kernel
theorem dX10_isWord_3 : decode cX10_isWord 3 = .ok (.aload_n 0, 1) := by decide +kernel
theorem dX10_isWord_4 : decode cX10_isWord 4 = .ok (.getfield 17, 3) := by decide +kernel
theorem dX10_isWord_7 : decode cX10_isWord 7 = .ok (.iconst 0, 1) := by decide +kernel
theorem dX10_isWord_8 : decode cX10_isWord 8 = .ok (.iaload, 1) := by decide +kernel
theorem dX10_isWord_9 : decode cX10_isWord 9 = .ok (.iconst 1, 1) := by decide +kernel
theorem dX10_isWord_10 : decode cX10_isWord 10 = .ok (.isub, 1) := by decide +kernel
theorem dX10_isWord_11 : decode cX10_isWord 11 = .ok (.i2l, 1) := by decide +kernel
theorem dX10_isWord_12 : decode cX10_isWord 12 = .ok (.invokestatic 65, 3) := by decide +kernel
theorem dX10_isWord_15 : decode cX10_isWord 15 = .ok (.ireturn, 1) := by decide +kernel
theorem dX10_flourOf_0 : decode cX10_flourOf 0 = .ok (.iconst 1, 1) := by decide +kernel
theorem dX10_flourOf_1 : decode cX10_flourOf 1 = .ok (.iload_n 0, 1) := by decide +kernel
theorem dX10_flourOf_2 : decode cX10_flourOf 2 = .ok (.bipush 6, 2) := by decide +kernel
theorem dX10_flourOf_4 : decode cX10_flourOf 4 = .ok (.irem, 1) := by decide +kernel
theorem dX10_flourOf_5 : decode cX10_flourOf 5 = .ok (.iadd, 1) := by decide +kernel
theorem dX10_flourOf_6 : decode cX10_flourOf 6 = .ok (.iconst 2, 1) := by decide +kernel
theorem dX10_flourOf_7 : decode cX10_flourOf 7 = .ok (.iload_n 0, 1) := by decide +kernel
theorem dX10_flourOf_8 : decode cX10_flourOf 8 = .ok (.bipush 6, 2) := by decide +kernel
theorem dX10_flourOf_10 : decode cX10_flourOf 10 = .ok (.idiv, 1) := by decide +kernel
theorem dX10_flourOf_11 : decode cX10_flourOf 11 = .ok (.iconst 4, 1) := by decide +kernel
theorem dX10_flourOf_12 : decode cX10_flourOf 12 = .ok (.irem, 1) := by decide +kernel
theorem dX10_flourOf_13 : decode cX10_flourOf 13 = .ok (.imul, 1) := by decide +kernel
theorem dX10_flourOf_14 : decode cX10_flourOf 14 = .ok (.iadd, 1) := by decide +kernel
theorem dX10_flourOf_15 : decode cX10_flourOf 15 = .ok (.iconst 3, 1) := by decide +kernel
theorem dX10_flourOf_16 : decode cX10_flourOf 16 = .ok (.iload_n 0, 1) := by decide +kernel
theorem dX10_flourOf_17 : decode cX10_flourOf 17 = .ok (.bipush 24, 2) := by decide +kernel
theorem dX10_flourOf_19 : decode cX10_flourOf 19 = .ok (.idiv, 1) := by decide +kernel
theorem dX10_flourOf_20 : decode cX10_flourOf 20 = .ok (.imul, 1) := by decide +kernel
theorem dX10_flourOf_21 : decode cX10_flourOf 21 = .ok (.iadd, 1) := by decide +kernel
theorem dX10_flourOf_22 : decode cX10_flourOf 22 = .ok (.ireturn, 1) := by decide +kernel
theorem dX10_word_0 : decode cX10_word 0 = .ok (.aload_n 0, 1) := by decide +kernel
theorem dX10_word_1 : decode cX10_word 1 = .ok (.iload_n 1, 1) := by decide +kernel
theorem dX10_word_2 : decode cX10_word 2 = .ok (.invokevirtual 111, 3) := by decide +kernel
theorem dX10_word_5 : decode cX10_word 5 = .ok (.ifCond .eq 15, 3) := by decide +kernel
theorem dX10_word_8 : decode cX10_word 8 = .ok (.iload_n 2, 1) := by decide +kernel
theorem dX10_word_9 : decode cX10_word 9 = .ok (.i2l, 1) := by decide +kernel
theorem dX10_word_10 : decode cX10_word 10 = .ok (.lconst 0, 1) := by decide +kernel
theorem dX10_word_11 : decode cX10_word 11 = .ok (.ldc2_w 80, 3) := by decide +kernel
theorem dX10_word_14 : decode cX10_word 14 = .ok (.invokestatic 65, 3) := by decide +kernel
theorem dX10_word_17 : decode cX10_word 17 = .ok (.ifCond .ne 7, 3) := by decide +kernel
theorem dX10_word_20 : decode cX10_word 20 = .ok (.iconst (-1), 1) := by decide +kernel
theorem dX10_word_21 : decode cX10_word 21 = .ok (.goto 32, 3) := by decide +kernel
theorem dX10_word_24 : decode cX10_word 24 = .ok (.iload_n 2, 1) := by decide +kernel
theorem dX10_word_25 : decode cX10_word 25 = .ok (.iconst 2, 1) := by decide +kernel
theorem dX10_word_26 : decode cX10_word 26 = .ok (.if_icmp .ge 16, 3) := by decide +kernel
theorem dX10_word_29 : decode cX10_word 29 = .ok (.aload_n 0, 1) := by decide +kernel
theorem dX10_word_30 : decode cX10_word 30 = .ok (.getfield 20, 3) := by decide +kernel
theorem dX10_word_33 : decode cX10_word 33 = .ok (.iconst 2, 1) := by decide +kernel
theorem dX10_word_34 : decode cX10_word 34 = .ok (.iload_n 1, 1) := by decide +kernel
theorem dX10_word_35 : decode cX10_word 35 = .ok (.imul, 1) := by decide +kernel
theorem dX10_word_36 : decode cX10_word 36 = .ok (.iload_n 2, 1) := by decide +kernel
theorem dX10_word_37 : decode cX10_word 37 = .ok (.iadd, 1) := by decide +kernel
theorem dX10_word_38 : decode cX10_word 38 = .ok (.iaload, 1) := by decide +kernel
theorem dX10_word_39 : decode cX10_word 39 = .ok (.goto 14, 3) := by decide +kernel
theorem dX10_word_42 : decode cX10_word 42 = .ok (.aload_n 0, 1) := by decide +kernel
theorem dX10_word_43 : decode cX10_word 43 = .ok (.getfield 20, 3) := by decide +kernel
theorem dX10_word_46 : decode cX10_word 46 = .ok (.iconst 2, 1) := by decide +kernel
theorem dX10_word_47 : decode cX10_word 47 = .ok (.iload_n 1, 1) := by decide +kernel
theorem dX10_word_48 : decode cX10_word 48 = .ok (.imul, 1) := by decide +kernel
theorem dX10_word_49 : decode cX10_word 49 = .ok (.iaload, 1) := by decide +kernel
theorem dX10_word_50 : decode cX10_word 50 = .ok (.invokestatic 114, 3) := by decide +kernel
theorem dX10_word_53 : decode cX10_word 53 = .ok (.ireturn, 1) := by decide +kernel
theorem dX10_aged_0 : decode cX10_aged 0 = .ok (.iload_n 1, 1) := by decide +kernel
theorem dX10_aged_1 : decode cX10_aged 1 = .ok (.bipush 6, 2) := by decide +kernel
theorem dX10_aged_3 : decode cX10_aged 3 = .ok (.irem, 1) := by decide +kernel
theorem dX10_aged_4 : decode cX10_aged 4 = .ok (.iload_n 2, 1) := by decide +kernel
theorem dX10_aged_5 : decode cX10_aged 5 = .ok (.aload_n 0, 1) := by decide +kernel
theorem dX10_aged_6 : decode cX10_aged 6 = .ok (.getfield 13, 3) := by decide +kernel
theorem dX10_aged_9 : decode cX10_aged 9 = .ok (.iconst 0, 1) := by decide +kernel
theorem dX10_aged_10 : decode cX10_aged 10 = .ok (.iaload, 1) := by decide +kernel
theorem dX10_aged_11 : decode cX10_aged 11 = .ok (.idiv, 1) := by decide +kernel
theorem dX10_aged_12 : decode cX10_aged 12 = .ok (.isub, 1) := by decide +kernel
theorem dX10_aged_13 : decode cX10_aged 13 = .ok (.istore_n 3, 1) := by decide +kernel
theorem dX10_aged_14 : decode cX10_aged 14 = .ok (.iload_n 1, 1) := by decide +kernel
theorem dX10_aged_15 : decode cX10_aged 15 = .ok (.bipush 6, 2) := by decide +kernel
theorem dX10_aged_17 : decode cX10_aged 17 = .ok (.idiv, 1) := by decide +kernel
theorem dX10_aged_18 : decode cX10_aged 18 = .ok (.iconst 4, 1) := by decide +kernel
theorem dX10_aged_19 : decode cX10_aged 19 = .ok (.irem, 1) := by decide +kernel
theorem dX10_aged_20 : decode cX10_aged 20 = .ok (.iload_n 2, 1) := by decide +kernel
theorem dX10_aged_21 : decode cX10_aged 21 = .ok (.aload_n 0, 1) := by decide +kernel
theorem dX10_aged_22 : decode cX10_aged 22 = .ok (.getfield 13, 3) := by decide +kernel
theorem dX10_aged_25 : decode cX10_aged 25 = .ok (.iconst 1, 1) := by decide +kernel
theorem dX10_aged_26 : decode cX10_aged 26 = .ok (.iaload, 1) := by decide +kernel
theorem dX10_aged_27 : decode cX10_aged 27 = .ok (.idiv, 1) := by decide +kernel
theorem dX10_aged_28 : decode cX10_aged 28 = .ok (.iadd, 1) := by decide +kernel
theorem dX10_aged_29 : decode cX10_aged 29 = .ok (.istore 4, 2) := by decide +kernel
theorem dX10_aged_31 : decode cX10_aged 31 = .ok (.iload_n 3, 1) := by decide +kernel
theorem dX10_aged_32 : decode cX10_aged 32 = .ok (.ifCond .ge 7, 3) := by decide +kernel
theorem dX10_aged_35 : decode cX10_aged 35 = .ok (.iconst 0, 1) := by decide +kernel
theorem dX10_aged_36 : decode cX10_aged 36 = .ok (.goto 4, 3) := by decide +kernel
theorem dX10_aged_39 : decode cX10_aged 39 = .ok (.iload_n 3, 1) := by decide +kernel
theorem dX10_aged_40 : decode cX10_aged 40 = .ok (.bipush 6, 2) := by decide +kernel
theorem dX10_aged_42 : decode cX10_aged 42 = .ok (.iload 4, 2) := by decide +kernel
theorem dX10_aged_44 : decode cX10_aged 44 = .ok (.iconst 3, 1) := by decide +kernel
theorem dX10_aged_45 : decode cX10_aged 45 = .ok (.if_icmp .le 7, 3) := by decide +kernel
theorem dX10_aged_48 : decode cX10_aged 48 = .ok (.iconst 3, 1) := by decide +kernel
theorem dX10_aged_49 : decode cX10_aged 49 = .ok (.goto 5, 3) := by decide +kernel
theorem dX10_aged_52 : decode cX10_aged 52 = .ok (.iload 4, 2) := by decide +kernel
theorem dX10_aged_54 : decode cX10_aged 54 = .ok (.imul, 1) := by decide +kernel
theorem dX10_aged_55 : decode cX10_aged 55 = .ok (.iadd, 1) := by decide +kernel
theorem dX10_aged_56 : decode cX10_aged 56 = .ok (.bipush 24, 2) := by decide +kernel
theorem dX10_aged_58 : decode cX10_aged 58 = .ok (.iload_n 1, 1) := by decide +kernel
theorem dX10_aged_59 : decode cX10_aged 59 = .ok (.bipush 24, 2) := by decide +kernel
theorem dX10_aged_61 : decode cX10_aged 61 = .ok (.idiv, 1) := by decide +kernel
theorem dX10_aged_62 : decode cX10_aged 62 = .ok (.imul, 1) := by decide +kernel
theorem dX10_aged_63 : decode cX10_aged 63 = .ok (.iadd, 1) := by decide +kernel
theorem dX10_aged_64 : decode cX10_aged 64 = .ok (.ireturn, 1) := by decide +kernel
theorem dX10_bitten_0 : decode cX10_bitten 0 = .ok (.iload_n 0, 1) := by decide +kernel
theorem dX10_bitten_1 : decode cX10_bitten 1 = .ok (.istore_n 2, 1) := by decide +kernel
theorem dX10_bitten_2 : decode cX10_bitten 2 = .ok (.iconst 0, 1) := by decide +kernel
theorem dX10_bitten_3 : decode cX10_bitten 3 = .ok (.istore_n 3, 1) := by decide +kernel
theorem dX10_bitten_4 : decode cX10_bitten 4 = .ok (.iload_n 3, 1) := by decide +kernel
theorem dX10_bitten_5 : decode cX10_bitten 5 = .ok (.iload_n 1, 1) := by decide +kernel
theorem dX10_bitten_6 : decode cX10_bitten 6 = .ok (.if_icmp .ge 40, 3) := by decide +kernel
theorem dX10_bitten_9 : decode cX10_bitten 9 = .ok (.iload_n 2, 1) := by decide +kernel
theorem dX10_bitten_10 : decode cX10_bitten 10 = .ok (.bipush 24, 2) := by decide +kernel
theorem dX10_bitten_12 : decode cX10_bitten 12 = .ok (.if_icmp .lt 10, 3) := by decide +kernel
theorem dX10_bitten_15 : decode cX10_bitten 15 = .ok (.iload_n 2, 1) := by decide +kernel
theorem dX10_bitten_16 : decode cX10_bitten 16 = .ok (.bipush 24, 2) := by decide +kernel
theorem dX10_bitten_18 : decode cX10_bitten 18 = .ok (.irem, 1) := by decide +kernel
theorem dX10_bitten_19 : decode cX10_bitten 19 = .ok (.goto 20, 3) := by decide +kernel
theorem dX10_bitten_22 : decode cX10_bitten 22 = .ok (.iload_n 2, 1) := by decide +kernel
theorem dX10_bitten_23 : decode cX10_bitten 23 = .ok (.bipush 6, 2) := by decide +kernel
theorem dX10_bitten_25 : decode cX10_bitten 25 = .ok (.irem, 1) := by decide +kernel
theorem dX10_bitten_26 : decode cX10_bitten 26 = .ok (.ifCond .le 12, 3) := by decide +kernel
theorem dX10_bitten_29 : decode cX10_bitten 29 = .ok (.iload_n 2, 1) := by decide +kernel
theorem dX10_bitten_30 : decode cX10_bitten 30 = .ok (.iload_n 2, 1) := by decide +kernel
theorem dX10_bitten_31 : decode cX10_bitten 31 = .ok (.bipush 6, 2) := by decide +kernel
theorem dX10_bitten_33 : decode cX10_bitten 33 = .ok (.irem, 1) := by decide +kernel
theorem dX10_bitten_34 : decode cX10_bitten 34 = .ok (.isub, 1) := by decide +kernel
theorem dX10_bitten_35 : decode cX10_bitten 35 = .ok (.goto 4, 3) := by decide +kernel
theorem dX10_bitten_38 : decode cX10_bitten 38 = .ok (.iconst 0, 1) := by decide +kernel
theorem dX10_bitten_39 : decode cX10_bitten 39 = .ok (.istore_n 2, 1) := by decide +kernel
theorem dX10_bitten_40 : decode cX10_bitten 40 = .ok (.iinc 3 1, 3) := by decide +kernel
theorem dX10_bitten_43 : decode cX10_bitten 43 = .ok (.goto (-39), 3) := by decide +kernel
theorem dX10_bitten_46 : decode cX10_bitten 46 = .ok (.iload_n 2, 1) := by decide +kernel
theorem dX10_bitten_47 : decode cX10_bitten 47 = .ok (.ireturn, 1) := by decide +kernel
theorem dX10_become_0 : decode cX10_become 0 = .ok (.aload_n 0, 1) := by decide +kernel
theorem dX10_become_1 : decode cX10_become 1 = .ok (.iload_n 1, 1) := by decide +kernel
theorem dX10_become_2 : decode cX10_become 2 = .ok (.iload_n 2, 1) := by decide +kernel
theorem dX10_become_3 : decode cX10_become 3 = .ok (.invokevirtual 117, 3) := by decide +kernel
theorem dX10_become_6 : decode cX10_become 6 = .ok (.iload_n 3, 1) := by decide +kernel
theorem dX10_become_7 : decode cX10_become 7 = .ok (.invokestatic 121, 3) := by decide +kernel
theorem dX10_become_10 : decode cX10_become 10 = .ok (.ireturn, 1) := by decide +kernel
theorem dX10_read_0 : decode cX10_read 0 = .ok (.iconst 0, 1) := by decide +kernel
theorem dX10_read_1 : decode cX10_read 1 = .ok (.istore_n 2, 1) := by decide +kernel
theorem dX10_read_2 : decode cX10_read 2 = .ok (.iload_n 2, 1) := by decide +kernel
theorem dX10_read_3 : decode cX10_read 3 = .ok (.aload_n 0, 1) := by decide +kernel
theorem dX10_read_4 : decode cX10_read 4 = .ok (.getfield 17, 3) := by decide +kernel
theorem dX10_read_7 : decode cX10_read 7 = .ok (.iconst 0, 1) := by decide +kernel
theorem dX10_read_8 : decode cX10_read 8 = .ok (.iaload, 1) := by decide +kernel
theorem dX10_read_9 : decode cX10_read 9 = .ok (.if_icmp .ge 23, 3) := by decide +kernel
theorem dX10_read_12 : decode cX10_read 12 = .ok (.aload_n 0, 1) := by decide +kernel
theorem dX10_read_13 : decode cX10_read 13 = .ok (.getfield 20, 3) := by decide +kernel
theorem dX10_read_16 : decode cX10_read 16 = .ok (.iconst 2, 1) := by decide +kernel
theorem dX10_read_17 : decode cX10_read 17 = .ok (.iload_n 2, 1) := by decide +kernel
theorem dX10_read_18 : decode cX10_read 18 = .ok (.imul, 1) := by decide +kernel
theorem dX10_read_19 : decode cX10_read 19 = .ok (.iaload, 1) := by decide +kernel
theorem dX10_read_20 : decode cX10_read 20 = .ok (.iload_n 1, 1) := by decide +kernel
theorem dX10_read_21 : decode cX10_read 21 = .ok (.if_icmp .ne 5, 3) := by decide +kernel
theorem dX10_read_24 : decode cX10_read 24 = .ok (.iload_n 2, 1) := by decide +kernel
theorem dX10_read_25 : decode cX10_read 25 = .ok (.ireturn, 1) := by decide +kernel
theorem dX10_read_26 : decode cX10_read 26 = .ok (.iinc 2 1, 3) := by decide +kernel
theorem dX10_read_29 : decode cX10_read 29 = .ok (.goto (-27), 3) := by decide +kernel
theorem dX10_read_32 : decode cX10_read 32 = .ok (.bipush (-4), 2) := by decide +kernel
theorem dX10_read_34 : decode cX10_read 34 = .ok (.ireturn, 1) := by decide +kernel
theorem dX10_baked_0 : decode cX10_baked 0 = .ok (.aload_n 0, 1) := by decide +kernel
theorem dX10_baked_1 : decode cX10_baked 1 = .ok (.getfield 20, 3) := by decide +kernel
theorem dX10_baked_4 : decode cX10_baked 4 = .ok (.iconst 2, 1) := by decide +kernel
theorem dX10_baked_5 : decode cX10_baked 5 = .ok (.iload_n 2, 1) := by decide +kernel
theorem dX10_baked_6 : decode cX10_baked 6 = .ok (.iconst 3, 1) := by decide +kernel
theorem dX10_baked_7 : decode cX10_baked 7 = .ok (.if_icmp .ne 16, 3) := by decide +kernel
theorem dX10_baked_10 : decode cX10_baked 10 = .ok (.iload_n 1, 1) := by decide +kernel
theorem dX10_baked_11 : decode cX10_baked 11 = .ok (.iconst 1, 1) := by decide +kernel
theorem dX10_baked_12 : decode cX10_baked 12 = .ok (.iadd, 1) := by decide +kernel
theorem dX10_baked_13 : decode cX10_baked 13 = .ok (.aload_n 0, 1) := by decide +kernel
theorem dX10_baked_14 : decode cX10_baked 14 = .ok (.getfield 17, 3) := by decide +kernel
theorem dX10_baked_17 : decode cX10_baked 17 = .ok (.iconst 0, 1) := by decide +kernel
theorem dX10_baked_18 : decode cX10_baked 18 = .ok (.iaload, 1) := by decide +kernel
theorem dX10_baked_19 : decode cX10_baked 19 = .ok (.irem, 1) := by decide +kernel
theorem dX10_baked_20 : decode cX10_baked 20 = .ok (.goto 4, 3) := by decide +kernel
theorem dX10_baked_23 : decode cX10_baked 23 = .ok (.iload_n 1, 1) := by decide +kernel
theorem dX10_baked_24 : decode cX10_baked 24 = .ok (.imul, 1) := by decide +kernel
theorem dX10_baked_25 : decode cX10_baked 25 = .ok (.iaload, 1) := by decide +kernel
theorem dX10_baked_26 : decode cX10_baked 26 = .ok (.ireturn, 1) := by decide +kernel
theorem dX10_hasNow_0 : decode cX10_hasNow 0 = .ok (.aload_n 0, 1) := by decide +kernel
theorem dX10_hasNow_1 : decode cX10_hasNow 1 = .ok (.getfield 38, 3) := by decide +kernel
theorem dX10_hasNow_4 : decode cX10_hasNow 4 = .ok (.iconst 4, 1) := by decide +kernel
theorem dX10_hasNow_5 : decode cX10_hasNow 5 = .ok (.iload_n 1, 1) := by decide +kernel
theorem dX10_hasNow_6 : decode cX10_hasNow 6 = .ok (.imul, 1) := by decide +kernel
theorem dX10_hasNow_7 : decode cX10_hasNow 7 = .ok (.iconst 1, 1) := by decide +kernel
theorem dX10_hasNow_8 : decode cX10_hasNow 8 = .ok (.iadd, 1) := by decide +kernel
theorem dX10_hasNow_9 : decode cX10_hasNow 9 = .ok (.iaload, 1) := by decide +kernel
theorem dX10_hasNow_10 : decode cX10_hasNow 10 = .ok (.istore_n 2, 1) := by decide +kernel
theorem dX10_hasNow_11 : decode cX10_hasNow 11 = .ok (.iload_n 2, 1) := by decide +kernel
theorem dX10_hasNow_12 : decode cX10_hasNow 12 = .ok (.iconst 1, 1) := by decide +kernel
theorem dX10_hasNow_13 : decode cX10_hasNow 13 = .ok (.if_icmp .ne 18, 3) := by decide +kernel
theorem dX10_hasNow_16 : decode cX10_hasNow 16 = .ok (.aload_n 0, 1) := by decide +kernel
theorem dX10_hasNow_17 : decode cX10_hasNow 17 = .ok (.getfield 38, 3) := by decide +kernel
theorem dX10_hasNow_20 : decode cX10_hasNow 20 = .ok (.iconst 4, 1) := by decide +kernel
theorem dX10_hasNow_21 : decode cX10_hasNow 21 = .ok (.iload_n 1, 1) := by decide +kernel
theorem dX10_hasNow_22 : decode cX10_hasNow 22 = .ok (.imul, 1) := by decide +kernel
theorem dX10_hasNow_23 : decode cX10_hasNow 23 = .ok (.iconst 2, 1) := by decide +kernel
theorem dX10_hasNow_24 : decode cX10_hasNow 24 = .ok (.iadd, 1) := by decide +kernel
theorem dX10_hasNow_25 : decode cX10_hasNow 25 = .ok (.iaload, 1) := by decide +kernel
theorem dX10_hasNow_26 : decode cX10_hasNow 26 = .ok (.iconst 2, 1) := by decide +kernel
theorem dX10_hasNow_27 : decode cX10_hasNow 27 = .ok (.idiv, 1) := by decide +kernel
theorem dX10_hasNow_28 : decode cX10_hasNow 28 = .ok (.goto 13, 3) := by decide +kernel
theorem dX10_hasNow_31 : decode cX10_hasNow 31 = .ok (.aload_n 0, 1) := by decide +kernel
theorem dX10_hasNow_32 : decode cX10_hasNow 32 = .ok (.getfield 38, 3) := by decide +kernel
theorem dX10_hasNow_35 : decode cX10_hasNow 35 = .ok (.iconst 4, 1) := by decide +kernel
theorem dX10_hasNow_36 : decode cX10_hasNow 36 = .ok (.iload_n 1, 1) := by decide +kernel
theorem dX10_hasNow_37 : decode cX10_hasNow 37 = .ok (.imul, 1) := by decide +kernel
theorem dX10_hasNow_38 : decode cX10_hasNow 38 = .ok (.iconst 2, 1) := by decide +kernel
theorem dX10_hasNow_39 : decode cX10_hasNow 39 = .ok (.iadd, 1) := by decide +kernel
theorem dX10_hasNow_40 : decode cX10_hasNow 40 = .ok (.iaload, 1) := by decide +kernel
theorem dX10_hasNow_41 : decode cX10_hasNow 41 = .ok (.istore_n 3, 1) := by decide +kernel
theorem dX10_hasNow_42 : decode cX10_hasNow 42 = .ok (.aload_n 0, 1) := by decide +kernel
theorem dX10_hasNow_43 : decode cX10_hasNow 43 = .ok (.aload_n 0, 1) := by decide +kernel
theorem dX10_hasNow_44 : decode cX10_hasNow 44 = .ok (.aload_n 0, 1) := by decide +kernel
theorem dX10_hasNow_45 : decode cX10_hasNow 45 = .ok (.getfield 38, 3) := by decide +kernel
theorem dX10_hasNow_48 : decode cX10_hasNow 48 = .ok (.iconst 4, 1) := by decide +kernel
theorem dX10_hasNow_49 : decode cX10_hasNow 49 = .ok (.iload_n 1, 1) := by decide +kernel
theorem dX10_hasNow_50 : decode cX10_hasNow 50 = .ok (.imul, 1) := by decide +kernel
theorem dX10_hasNow_51 : decode cX10_hasNow 51 = .ok (.iaload, 1) := by decide +kernel
theorem dX10_hasNow_52 : decode cX10_hasNow 52 = .ok (.iload_n 2, 1) := by decide +kernel
theorem dX10_hasNow_53 : decode cX10_hasNow 53 = .ok (.invokevirtual 124, 3) := by decide +kernel
theorem dX10_hasNow_56 : decode cX10_hasNow 56 = .ok (.iload_n 3, 1) := by decide +kernel
theorem dX10_hasNow_57 : decode cX10_hasNow 57 = .ok (.iload_n 2, 1) := by decide +kernel
theorem dX10_hasNow_58 : decode cX10_hasNow 58 = .ok (.iconst 2, 1) := by decide +kernel
theorem dX10_hasNow_59 : decode cX10_hasNow 59 = .ok (.if_icmp .ne 7, 3) := by decide +kernel
theorem dX10_hasNow_62 : decode cX10_hasNow 62 = .ok (.iconst 0, 1) := by decide +kernel
theorem dX10_hasNow_63 : decode cX10_hasNow 63 = .ok (.goto 13, 3) := by decide +kernel
theorem dX10_hasNow_66 : decode cX10_hasNow 66 = .ok (.aload_n 0, 1) := by decide +kernel
theorem dX10_hasNow_67 : decode cX10_hasNow 67 = .ok (.getfield 38, 3) := by decide +kernel
theorem dX10_hasNow_70 : decode cX10_hasNow 70 = .ok (.iconst 4, 1) := by decide +kernel
theorem dX10_hasNow_71 : decode cX10_hasNow 71 = .ok (.iload_n 1, 1) := by decide +kernel
theorem dX10_hasNow_72 : decode cX10_hasNow 72 = .ok (.imul, 1) := by decide +kernel
theorem dX10_hasNow_73 : decode cX10_hasNow 73 = .ok (.iconst 3, 1) := by decide +kernel
theorem dX10_hasNow_74 : decode cX10_hasNow 74 = .ok (.iadd, 1) := by decide +kernel
theorem dX10_hasNow_75 : decode cX10_hasNow 75 = .ok (.iaload, 1) := by decide +kernel
theorem dX10_hasNow_76 : decode cX10_hasNow 76 = .ok (.invokevirtual 127, 3) := by decide +kernel
theorem dX10_hasNow_79 : decode cX10_hasNow 79 = .ok (.ireturn, 1) := by decide +kernel
theorem dX10_known_0 : decode cX10_known 0 = .ok (.aload_n 0, 1) := by decide +kernel
theorem dX10_known_1 : decode cX10_known 1 = .ok (.getfield 98, 3) := by decide +kernel
theorem dX10_known_4 : decode cX10_known 4 = .ok (.bipush 8, 2) := by decide +kernel
theorem dX10_known_6 : decode cX10_known 6 = .ok (.if_icmp .ne 42, 3) := by decide +kernel
theorem dX10_known_9 : decode cX10_known 9 = .ok (.iconst 0, 1) := by decide +kernel
theorem dX10_known_10 : decode cX10_known 10 = .ok (.istore_n 3, 1) := by decide +kernel
theorem dX10_known_11 : decode cX10_known 11 = .ok (.iload_n 3, 1) := by decide +kernel
theorem dX10_known_12 : decode cX10_known 12 = .ok (.bipush 42, 2) := by decide +kernel
theorem dX10_known_14 : decode cX10_known 14 = .ok (.if_icmp .ge 24, 3) := by decide +kernel
theorem dX10_known_17 : decode cX10_known 17 = .ok (.aload_n 0, 1) := by decide +kernel
theorem dX10_known_18 : decode cX10_known 18 = .ok (.getfield 44, 3) := by decide +kernel
theorem dX10_known_21 : decode cX10_known 21 = .ok (.iload_n 3, 1) := by decide +kernel
theorem dX10_known_22 : decode cX10_known 22 = .ok (.aload_n 0, 1) := by decide +kernel
theorem dX10_known_23 : decode cX10_known 23 = .ok (.getfield 44, 3) := by decide +kernel
theorem dX10_known_26 : decode cX10_known 26 = .ok (.iload_n 3, 1) := by decide +kernel
theorem dX10_known_27 : decode cX10_known 27 = .ok (.bipush 6, 2) := by decide +kernel
theorem dX10_known_29 : decode cX10_known 29 = .ok (.iadd, 1) := by decide +kernel
theorem dX10_known_30 : decode cX10_known 30 = .ok (.iaload, 1) := by decide +kernel
theorem dX10_known_31 : decode cX10_known 31 = .ok (.iastore, 1) := by decide +kernel
theorem dX10_known_32 : decode cX10_known 32 = .ok (.iinc 3 1, 3) := by decide +kernel
theorem dX10_known_35 : decode cX10_known 35 = .ok (.goto (-24), 3) := by decide +kernel
theorem dX10_known_38 : decode cX10_known 38 = .ok (.aload_n 0, 1) := by decide +kernel
theorem dX10_known_39 : decode cX10_known 39 = .ok (.dup, 1) := by decide +kernel
theorem dX10_known_40 : decode cX10_known 40 = .ok (.getfield 98, 3) := by decide +kernel
theorem dX10_known_43 : decode cX10_known 43 = .ok (.iconst 1, 1) := by decide +kernel
theorem dX10_known_44 : decode cX10_known 44 = .ok (.isub, 1) := by decide +kernel
theorem dX10_known_45 : decode cX10_known 45 = .ok (.putfield 98, 3) := by decide +kernel
theorem dX10_known_48 : decode cX10_known 48 = .ok (.aload_n 0, 1) := by decide +kernel
theorem dX10_known_49 : decode cX10_known 49 = .ok (.getfield 44, 3) := by decide +kernel
theorem dX10_known_52 : decode cX10_known 52 = .ok (.bipush 6, 2) := by decide +kernel
theorem dX10_known_54 : decode cX10_known 54 = .ok (.aload_n 0, 1) := by decide +kernel
theorem dX10_known_55 : decode cX10_known 55 = .ok (.getfield 98, 3) := by decide +kernel
theorem dX10_known_58 : decode cX10_known 58 = .ok (.imul, 1) := by decide +kernel
theorem dX10_known_59 : decode cX10_known 59 = .ok (.iload_n 1, 1) := by decide +kernel
theorem dX10_known_60 : decode cX10_known 60 = .ok (.iastore, 1) := by decide +kernel
theorem dX10_known_61 : decode cX10_known 61 = .ok (.aload_n 0, 1) := by decide +kernel
theorem dX10_known_62 : decode cX10_known 62 = .ok (.getfield 44, 3) := by decide +kernel
theorem dX10_known_65 : decode cX10_known 65 = .ok (.bipush 6, 2) := by decide +kernel
theorem dX10_known_67 : decode cX10_known 67 = .ok (.aload_n 0, 1) := by decide +kernel
theorem dX10_known_68 : decode cX10_known 68 = .ok (.getfield 98, 3) := by decide +kernel
theorem dX10_known_71 : decode cX10_known 71 = .ok (.imul, 1) := by decide +kernel
theorem dX10_known_72 : decode cX10_known 72 = .ok (.iconst 1, 1) := by decide +kernel
theorem dX10_known_73 : decode cX10_known 73 = .ok (.iadd, 1) := by decide +kernel
theorem dX10_known_74 : decode cX10_known 74 = .ok (.iload_n 2, 1) := by decide +kernel
theorem dX10_known_75 : decode cX10_known 75 = .ok (.iastore, 1) := by decide +kernel
theorem dX10_known_76 : decode cX10_known 76 = .ok (.iconst 0, 1) := by decide +kernel
theorem dX10_known_77 : decode cX10_known 77 = .ok (.istore_n 3, 1) := by decide +kernel
theorem dX10_known_78 : decode cX10_known 78 = .ok (.iload_n 3, 1) := by decide +kernel
theorem dX10_known_79 : decode cX10_known 79 = .ok (.iconst 4, 1) := by decide +kernel
theorem dX10_known_80 : decode cX10_known 80 = .ok (.if_icmp .ge 45, 3) := by decide +kernel
theorem dX10_known_83 : decode cX10_known 83 = .ok (.aload_n 0, 1) := by decide +kernel
theorem dX10_known_84 : decode cX10_known 84 = .ok (.getfield 44, 3) := by decide +kernel
theorem dX10_known_87 : decode cX10_known 87 = .ok (.bipush 6, 2) := by decide +kernel
theorem dX10_known_89 : decode cX10_known 89 = .ok (.aload_n 0, 1) := by decide +kernel
theorem dX10_known_90 : decode cX10_known 90 = .ok (.getfield 98, 3) := by decide +kernel
theorem dX10_known_93 : decode cX10_known 93 = .ok (.imul, 1) := by decide +kernel
theorem dX10_known_94 : decode cX10_known 94 = .ok (.iconst 2, 1) := by decide +kernel
theorem dX10_known_95 : decode cX10_known 95 = .ok (.iadd, 1) := by decide +kernel
theorem dX10_known_96 : decode cX10_known 96 = .ok (.iload_n 3, 1) := by decide +kernel
theorem dX10_known_97 : decode cX10_known 97 = .ok (.iadd, 1) := by decide +kernel
theorem dX10_known_98 : decode cX10_known 98 = .ok (.iload_n 2, 1) := by decide +kernel
theorem dX10_known_99 : decode cX10_known 99 = .ok (.bipush 8, 2) := by decide +kernel
theorem dX10_known_101 : decode cX10_known 101 = .ok (.if_icmp .ge 16, 3) := by decide +kernel
theorem dX10_known_104 : decode cX10_known 104 = .ok (.aload_n 0, 1) := by decide +kernel
theorem dX10_known_105 : decode cX10_known 105 = .ok (.getfield 38, 3) := by decide +kernel
theorem dX10_known_108 : decode cX10_known 108 = .ok (.iconst 4, 1) := by decide +kernel
theorem dX10_known_109 : decode cX10_known 109 = .ok (.iload_n 2, 1) := by decide +kernel
theorem dX10_known_110 : decode cX10_known 110 = .ok (.imul, 1) := by decide +kernel
theorem dX10_known_111 : decode cX10_known 111 = .ok (.iload_n 3, 1) := by decide +kernel
theorem dX10_known_112 : decode cX10_known 112 = .ok (.iadd, 1) := by decide +kernel
theorem dX10_known_113 : decode cX10_known 113 = .ok (.iaload, 1) := by decide +kernel
theorem dX10_known_114 : decode cX10_known 114 = .ok (.goto 4, 3) := by decide +kernel
theorem dX10_known_117 : decode cX10_known 117 = .ok (.iconst 0, 1) := by decide +kernel
theorem dX10_known_118 : decode cX10_known 118 = .ok (.iastore, 1) := by decide +kernel
theorem dX10_known_119 : decode cX10_known 119 = .ok (.iinc 3 1, 3) := by decide +kernel
theorem dX10_known_122 : decode cX10_known 122 = .ok (.goto (-44), 3) := by decide +kernel
theorem dX10_known_125 : decode cX10_known 125 = .ok (.aload_n 0, 1) := by decide +kernel
theorem dX10_known_126 : decode cX10_known 126 = .ok (.dup, 1) := by decide +kernel
theorem dX10_known_127 : decode cX10_known 127 = .ok (.getfield 98, 3) := by decide +kernel
theorem dX10_known_130 : decode cX10_known 130 = .ok (.iconst 1, 1) := by decide +kernel
theorem dX10_known_131 : decode cX10_known 131 = .ok (.iadd, 1) := by decide +kernel
theorem dX10_known_132 : decode cX10_known 132 = .ok (.putfield 98, 3) := by decide +kernel
theorem dX10_known_135 : decode cX10_known 135 = .ok (.return_, 1) := by decide +kernel
theorem dX10_used_0 : decode cX10_used 0 = .ok (.aload_n 0, 1) := by decide +kernel
theorem dX10_used_1 : decode cX10_used 1 = .ok (.iload_n 1, 1) := by decide +kernel
theorem dX10_used_2 : decode cX10_used 2 = .ok (.iload_n 2, 1) := by decide +kernel
theorem dX10_used_3 : decode cX10_used 3 = .ok (.invokevirtual 124, 3) := by decide +kernel
theorem dX10_used_6 : decode cX10_used 6 = .ok (.invokestatic 114, 3) := by decide +kernel
theorem dX10_used_9 : decode cX10_used 9 = .ok (.istore_n 3, 1) := by decide +kernel
theorem dX10_used_10 : decode cX10_used 10 = .ok (.iload_n 2, 1) := by decide +kernel
theorem dX10_used_11 : decode cX10_used 11 = .ok (.iconst 1, 1) := by decide +kernel
theorem dX10_used_12 : decode cX10_used 12 = .ok (.if_icmp .ne 9, 3) := by decide +kernel
theorem dX10_used_15 : decode cX10_used 15 = .ok (.iconst 2, 1) := by decide +kernel
theorem dX10_used_16 : decode cX10_used 16 = .ok (.iload_n 3, 1) := by decide +kernel
theorem dX10_used_17 : decode cX10_used 17 = .ok (.imul, 1) := by decide +kernel
theorem dX10_used_18 : decode cX10_used 18 = .ok (.goto 15, 3) := by decide +kernel
theorem dX10_used_21 : decode cX10_used 21 = .ok (.iload_n 2, 1) := by decide +kernel
theorem dX10_used_22 : decode cX10_used 22 = .ok (.iconst 2, 1) := by decide +kernel
theorem dX10_used_23 : decode cX10_used 23 = .ok (.if_icmp .ne 9, 3) := by decide +kernel
theorem dX10_used_26 : decode cX10_used 26 = .ok (.iload_n 3, 1) := by decide +kernel
theorem dX10_used_27 : decode cX10_used 27 = .ok (.iconst 2, 1) := by decide +kernel
theorem dX10_used_28 : decode cX10_used 28 = .ok (.iadd, 1) := by decide +kernel
theorem dX10_used_29 : decode cX10_used 29 = .ok (.goto 4, 3) := by decide +kernel
theorem dX10_used_32 : decode cX10_used 32 = .ok (.iload_n 3, 1) := by decide +kernel
theorem dX10_used_33 : decode cX10_used 33 = .ok (.ireturn, 1) := by decide +kernel
theorem dX10_bake_0 : decode cX10_bake 0 = .ok (.aload_n 0, 1) := by decide +kernel
theorem dX10_bake_1 : decode cX10_bake 1 = .ok (.iload_n 1, 1) := by decide +kernel
theorem dX10_bake_2 : decode cX10_bake 2 = .ok (.invokevirtual 111, 3) := by decide +kernel
theorem dX10_bake_5 : decode cX10_bake 5 = .ok (.ifCond .eq 15, 3) := by decide +kernel
theorem dX10_bake_8 : decode cX10_bake 8 = .ok (.iload_n 2, 1) := by decide +kernel
theorem dX10_bake_9 : decode cX10_bake 9 = .ok (.i2l, 1) := by decide +kernel
theorem dX10_bake_10 : decode cX10_bake 10 = .ok (.lconst 0, 1) := by decide +kernel
theorem dX10_bake_11 : decode cX10_bake 11 = .ok (.ldc2_w 131, 3) := by decide +kernel
theorem dX10_bake_14 : decode cX10_bake 14 = .ok (.invokestatic 65, 3) := by decide +kernel
theorem dX10_bake_17 : decode cX10_bake 17 = .ok (.ifCond .ne 5, 3) := by decide +kernel
theorem dX10_bake_20 : decode cX10_bake 20 = .ok (.iconst (-1), 1) := by decide +kernel
theorem dX10_bake_21 : decode cX10_bake 21 = .ok (.ireturn, 1) := by decide +kernel
theorem dX10_bake_22 : decode cX10_bake 22 = .ok (.aload_n 0, 1) := by decide +kernel
theorem dX10_bake_23 : decode cX10_bake 23 = .ok (.getfield 35, 3) := by decide +kernel
theorem dX10_bake_26 : decode cX10_bake 26 = .ok (.iconst 0, 1) := by decide +kernel
theorem dX10_bake_27 : decode cX10_bake 27 = .ok (.iaload, 1) := by decide +kernel
theorem dX10_bake_28 : decode cX10_bake 28 = .ok (.bipush 8, 2) := by decide +kernel
theorem dX10_bake_30 : decode cX10_bake 30 = .ok (.if_icmp .ne 6, 3) := by decide +kernel
theorem dX10_bake_33 : decode cX10_bake 33 = .ok (.bipush (-3), 2) := by decide +kernel
theorem dX10_bake_35 : decode cX10_bake 35 = .ok (.ireturn, 1) := by decide +kernel
theorem dX10_bake_36 : decode cX10_bake 36 = .ok (.aload_n 0, 1) := by decide +kernel
theorem dX10_bake_37 : decode cX10_bake 37 = .ok (.getfield 35, 3) := by decide +kernel
theorem dX10_bake_40 : decode cX10_bake 40 = .ok (.iconst 0, 1) := by decide +kernel
theorem dX10_bake_41 : decode cX10_bake 41 = .ok (.iaload, 1) := by decide +kernel
theorem dX10_bake_42 : decode cX10_bake 42 = .ok (.istore_n 3, 1) := by decide +kernel
theorem dX10_bake_43 : decode cX10_bake 43 = .ok (.aload_n 0, 1) := by decide +kernel
theorem dX10_bake_44 : decode cX10_bake 44 = .ok (.getfield 38, 3) := by decide +kernel
theorem dX10_bake_47 : decode cX10_bake 47 = .ok (.iconst 4, 1) := by decide +kernel
theorem dX10_bake_48 : decode cX10_bake 48 = .ok (.iload_n 3, 1) := by decide +kernel
theorem dX10_bake_49 : decode cX10_bake 49 = .ok (.imul, 1) := by decide +kernel
theorem dX10_bake_50 : decode cX10_bake 50 = .ok (.iload_n 1, 1) := by decide +kernel
theorem dX10_bake_51 : decode cX10_bake 51 = .ok (.iastore, 1) := by decide +kernel
theorem dX10_bake_52 : decode cX10_bake 52 = .ok (.aload_n 0, 1) := by decide +kernel
theorem dX10_bake_53 : decode cX10_bake 53 = .ok (.getfield 38, 3) := by decide +kernel
theorem dX10_bake_56 : decode cX10_bake 56 = .ok (.iconst 4, 1) := by decide +kernel
theorem dX10_bake_57 : decode cX10_bake 57 = .ok (.iload_n 3, 1) := by decide +kernel
theorem dX10_bake_58 : decode cX10_bake 58 = .ok (.imul, 1) := by decide +kernel
theorem dX10_bake_59 : decode cX10_bake 59 = .ok (.iconst 1, 1) := by decide +kernel
theorem dX10_bake_60 : decode cX10_bake 60 = .ok (.iadd, 1) := by decide +kernel
theorem dX10_bake_61 : decode cX10_bake 61 = .ok (.iload_n 2, 1) := by decide +kernel
theorem dX10_bake_62 : decode cX10_bake 62 = .ok (.iastore, 1) := by decide +kernel
theorem dX10_bake_63 : decode cX10_bake 63 = .ok (.aload_n 0, 1) := by decide +kernel
theorem dX10_bake_64 : decode cX10_bake 64 = .ok (.getfield 38, 3) := by decide +kernel
theorem dX10_bake_67 : decode cX10_bake 67 = .ok (.iconst 4, 1) := by decide +kernel
theorem dX10_bake_68 : decode cX10_bake 68 = .ok (.iload_n 3, 1) := by decide +kernel
theorem dX10_bake_69 : decode cX10_bake 69 = .ok (.imul, 1) := by decide +kernel
theorem dX10_bake_70 : decode cX10_bake 70 = .ok (.iconst 2, 1) := by decide +kernel
theorem dX10_bake_71 : decode cX10_bake 71 = .ok (.iadd, 1) := by decide +kernel
theorem dX10_bake_72 : decode cX10_bake 72 = .ok (.iconst 0, 1) := by decide +kernel
theorem dX10_bake_73 : decode cX10_bake 73 = .ok (.iastore, 1) := by decide +kernel
theorem dX10_bake_74 : decode cX10_bake 74 = .ok (.aload_n 0, 1) := by decide +kernel
theorem dX10_bake_75 : decode cX10_bake 75 = .ok (.getfield 38, 3) := by decide +kernel
theorem dX10_bake_78 : decode cX10_bake 78 = .ok (.iconst 4, 1) := by decide +kernel
theorem dX10_bake_79 : decode cX10_bake 79 = .ok (.iload_n 3, 1) := by decide +kernel
theorem dX10_bake_80 : decode cX10_bake 80 = .ok (.imul, 1) := by decide +kernel
theorem dX10_bake_81 : decode cX10_bake 81 = .ok (.iconst 3, 1) := by decide +kernel
theorem dX10_bake_82 : decode cX10_bake 82 = .ok (.iadd, 1) := by decide +kernel
theorem dX10_bake_83 : decode cX10_bake 83 = .ok (.iconst 0, 1) := by decide +kernel
theorem dX10_bake_84 : decode cX10_bake 84 = .ok (.iastore, 1) := by decide +kernel
theorem dX10_bake_85 : decode cX10_bake 85 = .ok (.aload_n 0, 1) := by decide +kernel
theorem dX10_bake_86 : decode cX10_bake 86 = .ok (.getfield 35, 3) := by decide +kernel
theorem dX10_bake_89 : decode cX10_bake 89 = .ok (.iconst 0, 1) := by decide +kernel
theorem dX10_bake_90 : decode cX10_bake 90 = .ok (.dup2, 1) := by decide +kernel
theorem dX10_bake_91 : decode cX10_bake 91 = .ok (.iaload, 1) := by decide +kernel
theorem dX10_bake_92 : decode cX10_bake 92 = .ok (.iconst 1, 1) := by decide +kernel
theorem dX10_bake_93 : decode cX10_bake 93 = .ok (.iadd, 1) := by decide +kernel
theorem dX10_bake_94 : decode cX10_bake 94 = .ok (.iastore, 1) := by decide +kernel
theorem dX10_bake_95 : decode cX10_bake 95 = .ok (.aload_n 0, 1) := by decide +kernel
theorem dX10_bake_96 : decode cX10_bake 96 = .ok (.getfield 41, 3) := by decide +kernel
theorem dX10_bake_99 : decode cX10_bake 99 = .ok (.iconst 0, 1) := by decide +kernel
theorem dX10_bake_100 : decode cX10_bake 100 = .ok (.dup2, 1) := by decide +kernel
theorem dX10_bake_101 : decode cX10_bake 101 = .ok (.iaload, 1) := by decide +kernel
theorem dX10_bake_102 : decode cX10_bake 102 = .ok (.aload_n 0, 1) := by decide +kernel
theorem dX10_bake_103 : decode cX10_bake 103 = .ok (.iload_n 1, 1) := by decide +kernel
theorem dX10_bake_104 : decode cX10_bake 104 = .ok (.iload_n 2, 1) := by decide +kernel
theorem dX10_bake_105 : decode cX10_bake 105 = .ok (.invokevirtual 133, 3) := by decide +kernel
theorem dX10_bake_108 : decode cX10_bake 108 = .ok (.iadd, 1) := by decide +kernel
theorem dX10_bake_109 : decode cX10_bake 109 = .ok (.iastore, 1) := by decide +kernel
theorem dX10_bake_110 : decode cX10_bake 110 = .ok (.aload_n 0, 1) := by decide +kernel
theorem dX10_bake_111 : decode cX10_bake 111 = .ok (.iconst 0, 1) := by decide +kernel
theorem dX10_bake_112 : decode cX10_bake 112 = .ok (.iload_n 3, 1) := by decide +kernel
theorem dX10_bake_113 : decode cX10_bake 113 = .ok (.invokevirtual 136, 3) := by decide +kernel
theorem dX10_bake_116 : decode cX10_bake 116 = .ok (.aload_n 0, 1) := by decide +kernel
theorem dX10_bake_117 : decode cX10_bake 117 = .ok (.getfield 35, 3) := by decide +kernel
theorem dX10_bake_120 : decode cX10_bake 120 = .ok (.iconst 0, 1) := by decide +kernel
theorem dX10_bake_121 : decode cX10_bake 121 = .ok (.iaload, 1) := by decide +kernel
theorem dX10_bake_122 : decode cX10_bake 122 = .ok (.ireturn, 1) := by decide +kernel
theorem dX10_ages_0 : decode cX10_ages 0 = .ok (.iconst 0, 1) := by decide +kernel
theorem dX10_ages_1 : decode cX10_ages 1 = .ok (.istore_n 2, 1) := by decide +kernel
theorem dX10_ages_2 : decode cX10_ages 2 = .ok (.iload_n 2, 1) := by decide +kernel
theorem dX10_ages_3 : decode cX10_ages 3 = .ok (.aload_n 0, 1) := by decide +kernel
theorem dX10_ages_4 : decode cX10_ages 4 = .ok (.getfield 35, 3) := by decide +kernel
theorem dX10_ages_7 : decode cX10_ages 7 = .ok (.iconst 0, 1) := by decide +kernel
theorem dX10_ages_8 : decode cX10_ages 8 = .ok (.iaload, 1) := by decide +kernel
theorem dX10_ages_9 : decode cX10_ages 9 = .ok (.if_icmp .ge 23, 3) := by decide +kernel
theorem dX10_ages_12 : decode cX10_ages 12 = .ok (.aload_n 0, 1) := by decide +kernel
theorem dX10_ages_13 : decode cX10_ages 13 = .ok (.getfield 38, 3) := by decide +kernel
theorem dX10_ages_16 : decode cX10_ages 16 = .ok (.iconst 4, 1) := by decide +kernel
theorem dX10_ages_17 : decode cX10_ages 17 = .ok (.iload_n 2, 1) := by decide +kernel
theorem dX10_ages_18 : decode cX10_ages 18 = .ok (.imul, 1) := by decide +kernel
theorem dX10_ages_19 : decode cX10_ages 19 = .ok (.iconst 2, 1) := by decide +kernel
theorem dX10_ages_20 : decode cX10_ages 20 = .ok (.iadd, 1) := by decide +kernel
theorem dX10_ages_21 : decode cX10_ages 21 = .ok (.dup2, 1) := by decide +kernel
theorem dX10_ages_22 : decode cX10_ages 22 = .ok (.iaload, 1) := by decide +kernel
theorem dX10_ages_23 : decode cX10_ages 23 = .ok (.iload_n 1, 1) := by decide +kernel
theorem dX10_ages_24 : decode cX10_ages 24 = .ok (.iadd, 1) := by decide +kernel
theorem dX10_ages_25 : decode cX10_ages 25 = .ok (.iastore, 1) := by decide +kernel
theorem dX10_ages_26 : decode cX10_ages 26 = .ok (.iinc 2 1, 3) := by decide +kernel
theorem dX10_ages_29 : decode cX10_ages 29 = .ok (.goto (-27), 3) := by decide +kernel
theorem dX10_ages_32 : decode cX10_ages 32 = .ok (.return_, 1) := by decide +kernel
theorem dX10_day_0 : decode cX10_day 0 = .ok (.aload_n 0, 1) := by decide +kernel
theorem dX10_day_1 : decode cX10_day 1 = .ok (.iconst 1, 1) := by decide +kernel
theorem dX10_day_2 : decode cX10_day 2 = .ok (.invokevirtual 140, 3) := by decide +kernel
theorem dX10_day_5 : decode cX10_day 5 = .ok (.aload_n 0, 1) := by decide +kernel
theorem dX10_day_6 : decode cX10_day 6 = .ok (.iconst 1, 1) := by decide +kernel
theorem dX10_day_7 : decode cX10_day 7 = .ok (.iconst 0, 1) := by decide +kernel
theorem dX10_day_8 : decode cX10_day 8 = .ok (.invokevirtual 136, 3) := by decide +kernel
theorem dX10_day_11 : decode cX10_day 11 = .ok (.iconst 0, 1) := by decide +kernel
theorem dX10_day_12 : decode cX10_day 12 = .ok (.istore_n 1, 1) := by decide +kernel
theorem dX10_day_13 : decode cX10_day 13 = .ok (.iconst 0, 1) := by decide +kernel
theorem dX10_day_14 : decode cX10_day 14 = .ok (.istore_n 2, 1) := by decide +kernel
theorem dX10_day_15 : decode cX10_day 15 = .ok (.iload_n 2, 1) := by decide +kernel
theorem dX10_day_16 : decode cX10_day 16 = .ok (.aload_n 0, 1) := by decide +kernel
theorem dX10_day_17 : decode cX10_day 17 = .ok (.getfield 35, 3) := by decide +kernel
theorem dX10_day_20 : decode cX10_day 20 = .ok (.iconst 0, 1) := by decide +kernel
theorem dX10_day_21 : decode cX10_day 21 = .ok (.iaload, 1) := by decide +kernel
theorem dX10_day_22 : decode cX10_day 22 = .ok (.if_icmp .ge 37, 3) := by decide +kernel
theorem dX10_day_25 : decode cX10_day 25 = .ok (.iload_n 1, 1) := by decide +kernel
theorem dX10_day_26 : decode cX10_day 26 = .ok (.aload_n 0, 1) := by decide +kernel
theorem dX10_day_27 : decode cX10_day 27 = .ok (.aload_n 0, 1) := by decide +kernel
theorem dX10_day_28 : decode cX10_day 28 = .ok (.iload_n 2, 1) := by decide +kernel
theorem dX10_day_29 : decode cX10_day 29 = .ok (.invokevirtual 144, 3) := by decide +kernel
theorem dX10_day_32 : decode cX10_day 32 = .ok (.invokevirtual 147, 3) := by decide +kernel
theorem dX10_day_35 : decode cX10_day 35 = .ok (.aload_n 0, 1) := by decide +kernel
theorem dX10_day_36 : decode cX10_day 36 = .ok (.getfield 38, 3) := by decide +kernel
theorem dX10_day_39 : decode cX10_day 39 = .ok (.iconst 4, 1) := by decide +kernel
theorem dX10_day_40 : decode cX10_day 40 = .ok (.iload_n 2, 1) := by decide +kernel
theorem dX10_day_41 : decode cX10_day 41 = .ok (.imul, 1) := by decide +kernel
theorem dX10_day_42 : decode cX10_day 42 = .ok (.iaload, 1) := by decide +kernel
theorem dX10_day_43 : decode cX10_day 43 = .ok (.if_icmp .ne 7, 3) := by decide +kernel
theorem dX10_day_46 : decode cX10_day 46 = .ok (.iconst 1, 1) := by decide +kernel
theorem dX10_day_47 : decode cX10_day 47 = .ok (.goto 4, 3) := by decide +kernel
theorem dX10_day_50 : decode cX10_day 50 = .ok (.iconst 0, 1) := by decide +kernel
theorem dX10_day_51 : decode cX10_day 51 = .ok (.iadd, 1) := by decide +kernel
theorem dX10_day_52 : decode cX10_day 52 = .ok (.istore_n 1, 1) := by decide +kernel
theorem dX10_day_53 : decode cX10_day 53 = .ok (.iinc 2 1, 3) := by decide +kernel
theorem dX10_day_56 : decode cX10_day 56 = .ok (.goto (-41), 3) := by decide +kernel
theorem dX10_day_59 : decode cX10_day 59 = .ok (.iload_n 1, 1) := by decide +kernel
theorem dX10_day_60 : decode cX10_day 60 = .ok (.ireturn, 1) := by decide +kernel
theorem dX10_isLoaf_0 : decode cX10_isLoaf 0 = .ok (.iload_n 1, 1) := by decide +kernel
theorem dX10_isLoaf_1 : decode cX10_isLoaf 1 = .ok (.i2l, 1) := by decide +kernel
theorem dX10_isLoaf_2 : decode cX10_isLoaf 2 = .ok (.lconst 0, 1) := by decide +kernel
theorem dX10_isLoaf_3 : decode cX10_isLoaf 3 = .ok (.aload_n 0, 1) := by decide +kernel
theorem dX10_isLoaf_4 : decode cX10_isLoaf 4 = .ok (.getfield 35, 3) := by decide +kernel
theorem dX10_isLoaf_7 : decode cX10_isLoaf 7 = .ok (.iconst 0, 1) := by decide +kernel
theorem dX10_isLoaf_8 : decode cX10_isLoaf 8 = .ok (.iaload, 1) := by decide +kernel
theorem dX10_isLoaf_9 : decode cX10_isLoaf 9 = .ok (.iconst 1, 1) := by decide +kernel
theorem dX10_isLoaf_10 : decode cX10_isLoaf 10 = .ok (.isub, 1) := by decide +kernel
theorem dX10_isLoaf_11 : decode cX10_isLoaf 11 = .ok (.i2l, 1) := by decide +kernel
theorem dX10_isLoaf_12 : decode cX10_isLoaf 12 = .ok (.invokestatic 65, 3) := by decide +kernel
theorem dX10_isLoaf_15 : decode cX10_isLoaf 15 = .ok (.ireturn, 1) := by decide +kernel
theorem dX10_bite_0 : decode cX10_bite 0 = .ok (.aload_n 0, 1) := by decide +kernel
theorem dX10_bite_1 : decode cX10_bite 1 = .ok (.iload_n 1, 1) := by decide +kernel
theorem dX10_bite_2 : decode cX10_bite 2 = .ok (.invokevirtual 150, 3) := by decide +kernel
theorem dX10_bite_5 : decode cX10_bite 5 = .ok (.ifCond .ne 5, 3) := by decide +kernel
theorem dX10_bite_8 : decode cX10_bite 8 = .ok (.iconst (-1), 1) := by decide +kernel
theorem dX10_bite_9 : decode cX10_bite 9 = .ok (.ireturn, 1) := by decide +kernel
theorem dX10_bite_10 : decode cX10_bite 10 = .ok (.aload_n 0, 1) := by decide +kernel
theorem dX10_bite_11 : decode cX10_bite 11 = .ok (.getfield 38, 3) := by decide +kernel
theorem dX10_bite_14 : decode cX10_bite 14 = .ok (.iconst 4, 1) := by decide +kernel
theorem dX10_bite_15 : decode cX10_bite 15 = .ok (.iload_n 1, 1) := by decide +kernel
theorem dX10_bite_16 : decode cX10_bite 16 = .ok (.imul, 1) := by decide +kernel
theorem dX10_bite_17 : decode cX10_bite 17 = .ok (.iconst 3, 1) := by decide +kernel
theorem dX10_bite_18 : decode cX10_bite 18 = .ok (.iadd, 1) := by decide +kernel
theorem dX10_bite_19 : decode cX10_bite 19 = .ok (.iaload, 1) := by decide +kernel
theorem dX10_bite_20 : decode cX10_bite 20 = .ok (.bipush 9, 2) := by decide +kernel
theorem dX10_bite_22 : decode cX10_bite 22 = .ok (.if_icmp .ne 6, 3) := by decide +kernel
theorem dX10_bite_25 : decode cX10_bite 25 = .ok (.bipush (-3), 2) := by decide +kernel
theorem dX10_bite_27 : decode cX10_bite 27 = .ok (.ireturn, 1) := by decide +kernel
theorem dX10_bite_28 : decode cX10_bite 28 = .ok (.aload_n 0, 1) := by decide +kernel
theorem dX10_bite_29 : decode cX10_bite 29 = .ok (.getfield 38, 3) := by decide +kernel
theorem dX10_bite_32 : decode cX10_bite 32 = .ok (.iconst 4, 1) := by decide +kernel
theorem dX10_bite_33 : decode cX10_bite 33 = .ok (.iload_n 1, 1) := by decide +kernel
theorem dX10_bite_34 : decode cX10_bite 34 = .ok (.imul, 1) := by decide +kernel
theorem dX10_bite_35 : decode cX10_bite 35 = .ok (.iconst 3, 1) := by decide +kernel
theorem dX10_bite_36 : decode cX10_bite 36 = .ok (.iadd, 1) := by decide +kernel
theorem dX10_bite_37 : decode cX10_bite 37 = .ok (.dup2, 1) := by decide +kernel
theorem dX10_bite_38 : decode cX10_bite 38 = .ok (.iaload, 1) := by decide +kernel
theorem dX10_bite_39 : decode cX10_bite 39 = .ok (.iconst 1, 1) := by decide +kernel
theorem dX10_bite_40 : decode cX10_bite 40 = .ok (.iadd, 1) := by decide +kernel
theorem dX10_bite_41 : decode cX10_bite 41 = .ok (.iastore, 1) := by decide +kernel
theorem dX10_bite_42 : decode cX10_bite 42 = .ok (.aload_n 0, 1) := by decide +kernel
theorem dX10_bite_43 : decode cX10_bite 43 = .ok (.iconst 2, 1) := by decide +kernel
theorem dX10_bite_44 : decode cX10_bite 44 = .ok (.iload_n 1, 1) := by decide +kernel
theorem dX10_bite_45 : decode cX10_bite 45 = .ok (.invokevirtual 136, 3) := by decide +kernel
theorem dX10_bite_48 : decode cX10_bite 48 = .ok (.aload_n 0, 1) := by decide +kernel
theorem dX10_bite_49 : decode cX10_bite 49 = .ok (.getfield 38, 3) := by decide +kernel
theorem dX10_bite_52 : decode cX10_bite 52 = .ok (.iconst 4, 1) := by decide +kernel
theorem dX10_bite_53 : decode cX10_bite 53 = .ok (.iload_n 1, 1) := by decide +kernel
theorem dX10_bite_54 : decode cX10_bite 54 = .ok (.imul, 1) := by decide +kernel
theorem dX10_bite_55 : decode cX10_bite 55 = .ok (.iconst 3, 1) := by decide +kernel
theorem dX10_bite_56 : decode cX10_bite 56 = .ok (.iadd, 1) := by decide +kernel
theorem dX10_bite_57 : decode cX10_bite 57 = .ok (.iaload, 1) := by decide +kernel
theorem dX10_bite_58 : decode cX10_bite 58 = .ok (.ireturn, 1) := by decide +kernel
theorem dX10_take_0 : decode cX10_take 0 = .ok (.aload_n 0, 1) := by decide +kernel
theorem dX10_take_1 : decode cX10_take 1 = .ok (.iload_n 1, 1) := by decide +kernel
theorem dX10_take_2 : decode cX10_take 2 = .ok (.invokevirtual 150, 3) := by decide +kernel
theorem dX10_take_5 : decode cX10_take 5 = .ok (.ifCond .ne 5, 3) := by decide +kernel
theorem dX10_take_8 : decode cX10_take 8 = .ok (.iconst (-1), 1) := by decide +kernel
theorem dX10_take_9 : decode cX10_take 9 = .ok (.ireturn, 1) := by decide +kernel
theorem dX10_take_10 : decode cX10_take 10 = .ok (.aload_n 0, 1) := by decide +kernel
theorem dX10_take_11 : decode cX10_take 11 = .ok (.getfield 38, 3) := by decide +kernel
theorem dX10_take_14 : decode cX10_take 14 = .ok (.iconst 4, 1) := by decide +kernel
theorem dX10_take_15 : decode cX10_take 15 = .ok (.iload_n 1, 1) := by decide +kernel
theorem dX10_take_16 : decode cX10_take 16 = .ok (.imul, 1) := by decide +kernel
theorem dX10_take_17 : decode cX10_take 17 = .ok (.iaload, 1) := by decide +kernel
theorem dX10_take_18 : decode cX10_take 18 = .ok (.istore_n 2, 1) := by decide +kernel
theorem dX10_take_19 : decode cX10_take 19 = .ok (.aload_n 0, 1) := by decide +kernel
theorem dX10_take_20 : decode cX10_take 20 = .ok (.iconst 3, 1) := by decide +kernel
theorem dX10_take_21 : decode cX10_take 21 = .ok (.iload_n 1, 1) := by decide +kernel
theorem dX10_take_22 : decode cX10_take 22 = .ok (.invokevirtual 136, 3) := by decide +kernel
theorem dX10_take_25 : decode cX10_take 25 = .ok (.aload_n 0, 1) := by decide +kernel
theorem dX10_take_26 : decode cX10_take 26 = .ok (.getfield 35, 3) := by decide +kernel
theorem dX10_take_29 : decode cX10_take 29 = .ok (.iconst 0, 1) := by decide +kernel
theorem dX10_take_30 : decode cX10_take 30 = .ok (.dup2, 1) := by decide +kernel
theorem dX10_take_31 : decode cX10_take 31 = .ok (.iaload, 1) := by decide +kernel
theorem dX10_take_32 : decode cX10_take 32 = .ok (.iconst 1, 1) := by decide +kernel
theorem dX10_take_33 : decode cX10_take 33 = .ok (.isub, 1) := by decide +kernel
theorem dX10_take_34 : decode cX10_take 34 = .ok (.iastore, 1) := by decide +kernel
theorem dX10_take_35 : decode cX10_take 35 = .ok (.iconst 4, 1) := by decide +kernel
theorem dX10_take_36 : decode cX10_take 36 = .ok (.iload_n 1, 1) := by decide +kernel
theorem dX10_take_37 : decode cX10_take 37 = .ok (.imul, 1) := by decide +kernel
theorem dX10_take_38 : decode cX10_take 38 = .ok (.istore_n 3, 1) := by decide +kernel
theorem dX10_take_39 : decode cX10_take 39 = .ok (.iload_n 3, 1) := by decide +kernel
theorem dX10_take_40 : decode cX10_take 40 = .ok (.iconst 4, 1) := by decide +kernel
theorem dX10_take_41 : decode cX10_take 41 = .ok (.aload_n 0, 1) := by decide +kernel
theorem dX10_take_42 : decode cX10_take 42 = .ok (.getfield 35, 3) := by decide +kernel
theorem dX10_take_45 : decode cX10_take 45 = .ok (.iconst 0, 1) := by decide +kernel
theorem dX10_take_46 : decode cX10_take 46 = .ok (.iaload, 1) := by decide +kernel
theorem dX10_take_47 : decode cX10_take 47 = .ok (.imul, 1) := by decide +kernel
theorem dX10_take_48 : decode cX10_take 48 = .ok (.if_icmp .ge 23, 3) := by decide +kernel
theorem dX10_take_51 : decode cX10_take 51 = .ok (.aload_n 0, 1) := by decide +kernel
theorem dX10_take_52 : decode cX10_take 52 = .ok (.getfield 38, 3) := by decide +kernel
theorem dX10_take_55 : decode cX10_take 55 = .ok (.iload_n 3, 1) := by decide +kernel
theorem dX10_take_56 : decode cX10_take 56 = .ok (.aload_n 0, 1) := by decide +kernel
theorem dX10_take_57 : decode cX10_take 57 = .ok (.getfield 38, 3) := by decide +kernel
theorem dX10_take_60 : decode cX10_take 60 = .ok (.iload_n 3, 1) := by decide +kernel
theorem dX10_take_61 : decode cX10_take 61 = .ok (.iconst 4, 1) := by decide +kernel
theorem dX10_take_62 : decode cX10_take 62 = .ok (.iadd, 1) := by decide +kernel
theorem dX10_take_63 : decode cX10_take 63 = .ok (.iaload, 1) := by decide +kernel
theorem dX10_take_64 : decode cX10_take 64 = .ok (.iastore, 1) := by decide +kernel
theorem dX10_take_65 : decode cX10_take 65 = .ok (.iinc 3 1, 3) := by decide +kernel
theorem dX10_take_68 : decode cX10_take 68 = .ok (.goto (-29), 3) := by decide +kernel
theorem dX10_take_71 : decode cX10_take 71 = .ok (.iload_n 2, 1) := by decide +kernel
theorem dX10_take_72 : decode cX10_take 72 = .ok (.ireturn, 1) := by decide +kernel
theorem dX10_undo_0 : decode cX10_undo 0 = .ok (.aload_n 0, 1) := by decide +kernel
theorem dX10_undo_1 : decode cX10_undo 1 = .ok (.getfield 98, 3) := by decide +kernel
theorem dX10_undo_4 : decode cX10_undo 4 = .ok (.ifCond .ne 6, 3) := by decide +kernel
theorem dX10_undo_7 : decode cX10_undo 7 = .ok (.bipush (-2), 2) := by decide +kernel
theorem dX10_undo_9 : decode cX10_undo 9 = .ok (.ireturn, 1) := by decide +kernel
theorem dX10_undo_10 : decode cX10_undo 10 = .ok (.aload_n 0, 1) := by decide +kernel
theorem dX10_undo_11 : decode cX10_undo 11 = .ok (.dup, 1) := by decide +kernel
theorem dX10_undo_12 : decode cX10_undo 12 = .ok (.getfield 98, 3) := by decide +kernel
theorem dX10_undo_15 : decode cX10_undo 15 = .ok (.iconst 1, 1) := by decide +kernel
theorem dX10_undo_16 : decode cX10_undo 16 = .ok (.isub, 1) := by decide +kernel
theorem dX10_undo_17 : decode cX10_undo 17 = .ok (.putfield 98, 3) := by decide +kernel
theorem dX10_undo_20 : decode cX10_undo 20 = .ok (.aload_n 0, 1) := by decide +kernel
theorem dX10_undo_21 : decode cX10_undo 21 = .ok (.getfield 44, 3) := by decide +kernel
theorem dX10_undo_24 : decode cX10_undo 24 = .ok (.bipush 6, 2) := by decide +kernel
theorem dX10_undo_26 : decode cX10_undo 26 = .ok (.aload_n 0, 1) := by decide +kernel
theorem dX10_undo_27 : decode cX10_undo 27 = .ok (.getfield 98, 3) := by decide +kernel
theorem dX10_undo_30 : decode cX10_undo 30 = .ok (.imul, 1) := by decide +kernel
theorem dX10_undo_31 : decode cX10_undo 31 = .ok (.iaload, 1) := by decide +kernel
theorem dX10_undo_32 : decode cX10_undo 32 = .ok (.istore_n 1, 1) := by decide +kernel
theorem dX10_undo_33 : decode cX10_undo 33 = .ok (.aload_n 0, 1) := by decide +kernel
theorem dX10_undo_34 : decode cX10_undo 34 = .ok (.getfield 44, 3) := by decide +kernel
theorem dX10_undo_37 : decode cX10_undo 37 = .ok (.bipush 6, 2) := by decide +kernel
theorem dX10_undo_39 : decode cX10_undo 39 = .ok (.aload_n 0, 1) := by decide +kernel
theorem dX10_undo_40 : decode cX10_undo 40 = .ok (.getfield 98, 3) := by decide +kernel
theorem dX10_undo_43 : decode cX10_undo 43 = .ok (.imul, 1) := by decide +kernel
theorem dX10_undo_44 : decode cX10_undo 44 = .ok (.iconst 1, 1) := by decide +kernel
theorem dX10_undo_45 : decode cX10_undo 45 = .ok (.iadd, 1) := by decide +kernel
theorem dX10_undo_46 : decode cX10_undo 46 = .ok (.iaload, 1) := by decide +kernel
theorem dX10_undo_47 : decode cX10_undo 47 = .ok (.istore_n 2, 1) := by decide +kernel
theorem dX10_undo_48 : decode cX10_undo 48 = .ok (.iload_n 1, 1) := by decide +kernel
theorem dX10_undo_49 : decode cX10_undo 49 = .ok (.ifCond .ne 57, 3) := by decide +kernel
theorem dX10_undo_52 : decode cX10_undo 52 = .ok (.aload_n 0, 1) := by decide +kernel
theorem dX10_undo_53 : decode cX10_undo 53 = .ok (.getfield 35, 3) := by decide +kernel
theorem dX10_undo_56 : decode cX10_undo 56 = .ok (.iconst 0, 1) := by decide +kernel
theorem dX10_undo_57 : decode cX10_undo 57 = .ok (.dup2, 1) := by decide +kernel
theorem dX10_undo_58 : decode cX10_undo 58 = .ok (.iaload, 1) := by decide +kernel
theorem dX10_undo_59 : decode cX10_undo 59 = .ok (.iconst 1, 1) := by decide +kernel
theorem dX10_undo_60 : decode cX10_undo 60 = .ok (.isub, 1) := by decide +kernel
theorem dX10_undo_61 : decode cX10_undo 61 = .ok (.iastore, 1) := by decide +kernel
theorem dX10_undo_62 : decode cX10_undo 62 = .ok (.aload_n 0, 1) := by decide +kernel
theorem dX10_undo_63 : decode cX10_undo 63 = .ok (.getfield 41, 3) := by decide +kernel
theorem dX10_undo_66 : decode cX10_undo 66 = .ok (.iconst 0, 1) := by decide +kernel
theorem dX10_undo_67 : decode cX10_undo 67 = .ok (.dup2, 1) := by decide +kernel
theorem dX10_undo_68 : decode cX10_undo 68 = .ok (.iaload, 1) := by decide +kernel
theorem dX10_undo_69 : decode cX10_undo 69 = .ok (.aload_n 0, 1) := by decide +kernel
theorem dX10_undo_70 : decode cX10_undo 70 = .ok (.aload_n 0, 1) := by decide +kernel
theorem dX10_undo_71 : decode cX10_undo 71 = .ok (.getfield 38, 3) := by decide +kernel
theorem dX10_undo_74 : decode cX10_undo 74 = .ok (.iconst 4, 1) := by decide +kernel
theorem dX10_undo_75 : decode cX10_undo 75 = .ok (.aload_n 0, 1) := by decide +kernel
theorem dX10_undo_76 : decode cX10_undo 76 = .ok (.getfield 35, 3) := by decide +kernel
theorem dX10_undo_79 : decode cX10_undo 79 = .ok (.iconst 0, 1) := by decide +kernel
theorem dX10_undo_80 : decode cX10_undo 80 = .ok (.iaload, 1) := by decide +kernel
theorem dX10_undo_81 : decode cX10_undo 81 = .ok (.imul, 1) := by decide +kernel
theorem dX10_undo_82 : decode cX10_undo 82 = .ok (.iaload, 1) := by decide +kernel
theorem dX10_undo_83 : decode cX10_undo 83 = .ok (.aload_n 0, 1) := by decide +kernel
theorem dX10_undo_84 : decode cX10_undo 84 = .ok (.getfield 38, 3) := by decide +kernel
theorem dX10_undo_87 : decode cX10_undo 87 = .ok (.iconst 4, 1) := by decide +kernel
theorem dX10_undo_88 : decode cX10_undo 88 = .ok (.aload_n 0, 1) := by decide +kernel
theorem dX10_undo_89 : decode cX10_undo 89 = .ok (.getfield 35, 3) := by decide +kernel
theorem dX10_undo_92 : decode cX10_undo 92 = .ok (.iconst 0, 1) := by decide +kernel
theorem dX10_undo_93 : decode cX10_undo 93 = .ok (.iaload, 1) := by decide +kernel
theorem dX10_undo_94 : decode cX10_undo 94 = .ok (.imul, 1) := by decide +kernel
theorem dX10_undo_95 : decode cX10_undo 95 = .ok (.iconst 1, 1) := by decide +kernel
theorem dX10_undo_96 : decode cX10_undo 96 = .ok (.iadd, 1) := by decide +kernel
theorem dX10_undo_97 : decode cX10_undo 97 = .ok (.iaload, 1) := by decide +kernel
theorem dX10_undo_98 : decode cX10_undo 98 = .ok (.invokevirtual 133, 3) := by decide +kernel
theorem dX10_undo_101 : decode cX10_undo 101 = .ok (.isub, 1) := by decide +kernel
theorem dX10_undo_102 : decode cX10_undo 102 = .ok (.iastore, 1) := by decide +kernel
theorem dX10_undo_103 : decode cX10_undo 103 = .ok (.goto 125, 3) := by decide +kernel
theorem dX10_undo_106 : decode cX10_undo 106 = .ok (.iload_n 1, 1) := by decide +kernel
theorem dX10_undo_107 : decode cX10_undo 107 = .ok (.iconst 1, 1) := by decide +kernel
theorem dX10_undo_108 : decode cX10_undo 108 = .ok (.if_icmp .ne 11, 3) := by decide +kernel
theorem dX10_undo_111 : decode cX10_undo 111 = .ok (.aload_n 0, 1) := by decide +kernel
theorem dX10_undo_112 : decode cX10_undo 112 = .ok (.iconst (-1), 1) := by decide +kernel
theorem dX10_undo_113 : decode cX10_undo 113 = .ok (.invokevirtual 140, 3) := by decide +kernel
theorem dX10_undo_116 : decode cX10_undo 116 = .ok (.goto 112, 3) := by decide +kernel
theorem dX10_undo_119 : decode cX10_undo 119 = .ok (.iload_n 1, 1) := by decide +kernel
theorem dX10_undo_120 : decode cX10_undo 120 = .ok (.iconst 2, 1) := by decide +kernel
theorem dX10_undo_121 : decode cX10_undo 121 = .ok (.if_icmp .ne 20, 3) := by decide +kernel
theorem dX10_undo_124 : decode cX10_undo 124 = .ok (.aload_n 0, 1) := by decide +kernel
theorem dX10_undo_125 : decode cX10_undo 125 = .ok (.getfield 38, 3) := by decide +kernel
theorem dX10_undo_128 : decode cX10_undo 128 = .ok (.iconst 4, 1) := by decide +kernel
theorem dX10_undo_129 : decode cX10_undo 129 = .ok (.iload_n 2, 1) := by decide +kernel
theorem dX10_undo_130 : decode cX10_undo 130 = .ok (.imul, 1) := by decide +kernel
theorem dX10_undo_131 : decode cX10_undo 131 = .ok (.iconst 3, 1) := by decide +kernel
theorem dX10_undo_132 : decode cX10_undo 132 = .ok (.iadd, 1) := by decide +kernel
theorem dX10_undo_133 : decode cX10_undo 133 = .ok (.dup2, 1) := by decide +kernel
theorem dX10_undo_134 : decode cX10_undo 134 = .ok (.iaload, 1) := by decide +kernel
theorem dX10_undo_135 : decode cX10_undo 135 = .ok (.iconst 1, 1) := by decide +kernel
theorem dX10_undo_136 : decode cX10_undo 136 = .ok (.isub, 1) := by decide +kernel
theorem dX10_undo_137 : decode cX10_undo 137 = .ok (.iastore, 1) := by decide +kernel
theorem dX10_undo_138 : decode cX10_undo 138 = .ok (.goto 90, 3) := by decide +kernel
theorem dX10_undo_141 : decode cX10_undo 141 = .ok (.iconst 4, 1) := by decide +kernel
theorem dX10_undo_142 : decode cX10_undo 142 = .ok (.aload_n 0, 1) := by decide +kernel
theorem dX10_undo_143 : decode cX10_undo 143 = .ok (.getfield 35, 3) := by decide +kernel
theorem dX10_undo_146 : decode cX10_undo 146 = .ok (.iconst 0, 1) := by decide +kernel
theorem dX10_undo_147 : decode cX10_undo 147 = .ok (.iaload, 1) := by decide +kernel
theorem dX10_undo_148 : decode cX10_undo 148 = .ok (.imul, 1) := by decide +kernel
theorem dX10_undo_149 : decode cX10_undo 149 = .ok (.iconst 1, 1) := by decide +kernel
theorem dX10_undo_150 : decode cX10_undo 150 = .ok (.isub, 1) := by decide +kernel
theorem dX10_undo_151 : decode cX10_undo 151 = .ok (.istore_n 3, 1) := by decide +kernel
theorem dX10_undo_152 : decode cX10_undo 152 = .ok (.iload_n 3, 1) := by decide +kernel
theorem dX10_undo_153 : decode cX10_undo 153 = .ok (.iconst 4, 1) := by decide +kernel
theorem dX10_undo_154 : decode cX10_undo 154 = .ok (.iload_n 2, 1) := by decide +kernel
theorem dX10_undo_155 : decode cX10_undo 155 = .ok (.imul, 1) := by decide +kernel
theorem dX10_undo_156 : decode cX10_undo 156 = .ok (.if_icmp .lt 23, 3) := by decide +kernel
theorem dX10_undo_159 : decode cX10_undo 159 = .ok (.aload_n 0, 1) := by decide +kernel
theorem dX10_undo_160 : decode cX10_undo 160 = .ok (.getfield 38, 3) := by decide +kernel
theorem dX10_undo_163 : decode cX10_undo 163 = .ok (.iload_n 3, 1) := by decide +kernel
theorem dX10_undo_164 : decode cX10_undo 164 = .ok (.iconst 4, 1) := by decide +kernel
theorem dX10_undo_165 : decode cX10_undo 165 = .ok (.iadd, 1) := by decide +kernel
theorem dX10_undo_166 : decode cX10_undo 166 = .ok (.aload_n 0, 1) := by decide +kernel
theorem dX10_undo_167 : decode cX10_undo 167 = .ok (.getfield 38, 3) := by decide +kernel
theorem dX10_undo_170 : decode cX10_undo 170 = .ok (.iload_n 3, 1) := by decide +kernel
theorem dX10_undo_171 : decode cX10_undo 171 = .ok (.iaload, 1) := by decide +kernel
theorem dX10_undo_172 : decode cX10_undo 172 = .ok (.iastore, 1) := by decide +kernel
theorem dX10_undo_173 : decode cX10_undo 173 = .ok (.iinc 3 (-1), 3) := by decide +kernel
theorem dX10_undo_176 : decode cX10_undo 176 = .ok (.goto (-24), 3) := by decide +kernel
theorem dX10_undo_179 : decode cX10_undo 179 = .ok (.iconst 0, 1) := by decide +kernel
theorem dX10_undo_180 : decode cX10_undo 180 = .ok (.istore_n 3, 1) := by decide +kernel
theorem dX10_undo_181 : decode cX10_undo 181 = .ok (.iload_n 3, 1) := by decide +kernel
theorem dX10_undo_182 : decode cX10_undo 182 = .ok (.iconst 4, 1) := by decide +kernel
theorem dX10_undo_183 : decode cX10_undo 183 = .ok (.if_icmp .ge 35, 3) := by decide +kernel
theorem dX10_undo_186 : decode cX10_undo 186 = .ok (.aload_n 0, 1) := by decide +kernel
theorem dX10_undo_187 : decode cX10_undo 187 = .ok (.getfield 38, 3) := by decide +kernel
theorem dX10_undo_190 : decode cX10_undo 190 = .ok (.iconst 4, 1) := by decide +kernel
theorem dX10_undo_191 : decode cX10_undo 191 = .ok (.iload_n 2, 1) := by decide +kernel
theorem dX10_undo_192 : decode cX10_undo 192 = .ok (.imul, 1) := by decide +kernel
theorem dX10_undo_193 : decode cX10_undo 193 = .ok (.iload_n 3, 1) := by decide +kernel
theorem dX10_undo_194 : decode cX10_undo 194 = .ok (.iadd, 1) := by decide +kernel
theorem dX10_undo_195 : decode cX10_undo 195 = .ok (.aload_n 0, 1) := by decide +kernel
theorem dX10_undo_196 : decode cX10_undo 196 = .ok (.getfield 44, 3) := by decide +kernel
theorem dX10_undo_199 : decode cX10_undo 199 = .ok (.bipush 6, 2) := by decide +kernel
theorem dX10_undo_201 : decode cX10_undo 201 = .ok (.aload_n 0, 1) := by decide +kernel
theorem dX10_undo_202 : decode cX10_undo 202 = .ok (.getfield 98, 3) := by decide +kernel
theorem dX10_undo_205 : decode cX10_undo 205 = .ok (.imul, 1) := by decide +kernel
theorem dX10_undo_206 : decode cX10_undo 206 = .ok (.iconst 2, 1) := by decide +kernel
theorem dX10_undo_207 : decode cX10_undo 207 = .ok (.iadd, 1) := by decide +kernel
theorem dX10_undo_208 : decode cX10_undo 208 = .ok (.iload_n 3, 1) := by decide +kernel
theorem dX10_undo_209 : decode cX10_undo 209 = .ok (.iadd, 1) := by decide +kernel
theorem dX10_undo_210 : decode cX10_undo 210 = .ok (.iaload, 1) := by decide +kernel
theorem dX10_undo_211 : decode cX10_undo 211 = .ok (.iastore, 1) := by decide +kernel
theorem dX10_undo_212 : decode cX10_undo 212 = .ok (.iinc 3 1, 3) := by decide +kernel
theorem dX10_undo_215 : decode cX10_undo 215 = .ok (.goto (-34), 3) := by decide +kernel
theorem dX10_undo_218 : decode cX10_undo 218 = .ok (.aload_n 0, 1) := by decide +kernel
theorem dX10_undo_219 : decode cX10_undo 219 = .ok (.getfield 35, 3) := by decide +kernel
theorem dX10_undo_222 : decode cX10_undo 222 = .ok (.iconst 0, 1) := by decide +kernel
theorem dX10_undo_223 : decode cX10_undo 223 = .ok (.dup2, 1) := by decide +kernel
theorem dX10_undo_224 : decode cX10_undo 224 = .ok (.iaload, 1) := by decide +kernel
theorem dX10_undo_225 : decode cX10_undo 225 = .ok (.iconst 1, 1) := by decide +kernel
theorem dX10_undo_226 : decode cX10_undo 226 = .ok (.iadd, 1) := by decide +kernel
theorem dX10_undo_227 : decode cX10_undo 227 = .ok (.iastore, 1) := by decide +kernel
theorem dX10_undo_228 : decode cX10_undo 228 = .ok (.aload_n 0, 1) := by decide +kernel
theorem dX10_undo_229 : decode cX10_undo 229 = .ok (.getfield 98, 3) := by decide +kernel
theorem dX10_undo_232 : decode cX10_undo 232 = .ok (.ireturn, 1) := by decide +kernel
theorem dX10_loaf_0 : decode cX10_loaf 0 = .ok (.aload_n 0, 1) := by decide +kernel
theorem dX10_loaf_1 : decode cX10_loaf 1 = .ok (.iload_n 1, 1) := by decide +kernel
theorem dX10_loaf_2 : decode cX10_loaf 2 = .ok (.invokevirtual 150, 3) := by decide +kernel
theorem dX10_loaf_5 : decode cX10_loaf 5 = .ok (.ifCond .eq 15, 3) := by decide +kernel
theorem dX10_loaf_8 : decode cX10_loaf 8 = .ok (.iload_n 2, 1) := by decide +kernel
theorem dX10_loaf_9 : decode cX10_loaf 9 = .ok (.i2l, 1) := by decide +kernel
theorem dX10_loaf_10 : decode cX10_loaf 10 = .ok (.lconst 0, 1) := by decide +kernel
theorem dX10_loaf_11 : decode cX10_loaf 11 = .ok (.ldc2_w 153, 3) := by decide +kernel
theorem dX10_loaf_14 : decode cX10_loaf 14 = .ok (.invokestatic 65, 3) := by decide +kernel
theorem dX10_loaf_17 : decode cX10_loaf 17 = .ok (.ifCond .ne 7, 3) := by decide +kernel
theorem dX10_loaf_20 : decode cX10_loaf 20 = .ok (.iconst (-1), 1) := by decide +kernel
theorem dX10_loaf_21 : decode cX10_loaf 21 = .ok (.goto 43, 3) := by decide +kernel
theorem dX10_loaf_24 : decode cX10_loaf 24 = .ok (.iload_n 2, 1) := by decide +kernel
theorem dX10_loaf_25 : decode cX10_loaf 25 = .ok (.iconst 4, 1) := by decide +kernel
theorem dX10_loaf_26 : decode cX10_loaf 26 = .ok (.if_icmp .ge 16, 3) := by decide +kernel
theorem dX10_loaf_29 : decode cX10_loaf 29 = .ok (.aload_n 0, 1) := by decide +kernel
theorem dX10_loaf_30 : decode cX10_loaf 30 = .ok (.getfield 38, 3) := by decide +kernel
theorem dX10_loaf_33 : decode cX10_loaf 33 = .ok (.iconst 4, 1) := by decide +kernel
theorem dX10_loaf_34 : decode cX10_loaf 34 = .ok (.iload_n 1, 1) := by decide +kernel
theorem dX10_loaf_35 : decode cX10_loaf 35 = .ok (.imul, 1) := by decide +kernel
theorem dX10_loaf_36 : decode cX10_loaf 36 = .ok (.iload_n 2, 1) := by decide +kernel
theorem dX10_loaf_37 : decode cX10_loaf 37 = .ok (.iadd, 1) := by decide +kernel
theorem dX10_loaf_38 : decode cX10_loaf 38 = .ok (.iaload, 1) := by decide +kernel
theorem dX10_loaf_39 : decode cX10_loaf 39 = .ok (.goto 25, 3) := by decide +kernel
theorem dX10_loaf_42 : decode cX10_loaf 42 = .ok (.iload_n 2, 1) := by decide +kernel
theorem dX10_loaf_43 : decode cX10_loaf 43 = .ok (.iconst 4, 1) := by decide +kernel
theorem dX10_loaf_44 : decode cX10_loaf 44 = .ok (.if_icmp .ne 11, 3) := by decide +kernel
theorem dX10_loaf_47 : decode cX10_loaf 47 = .ok (.aload_n 0, 1) := by decide +kernel
theorem dX10_loaf_48 : decode cX10_loaf 48 = .ok (.iload_n 1, 1) := by decide +kernel
theorem dX10_loaf_49 : decode cX10_loaf 49 = .ok (.invokevirtual 144, 3) := by decide +kernel
theorem dX10_loaf_52 : decode cX10_loaf 52 = .ok (.goto 12, 3) := by decide +kernel
theorem dX10_loaf_55 : decode cX10_loaf 55 = .ok (.aload_n 0, 1) := by decide +kernel
theorem dX10_loaf_56 : decode cX10_loaf 56 = .ok (.aload_n 0, 1) := by decide +kernel
theorem dX10_loaf_57 : decode cX10_loaf 57 = .ok (.iload_n 1, 1) := by decide +kernel
theorem dX10_loaf_58 : decode cX10_loaf 58 = .ok (.invokevirtual 144, 3) := by decide +kernel
theorem dX10_loaf_61 : decode cX10_loaf 61 = .ok (.invokevirtual 147, 3) := by decide +kernel
theorem dX10_loaf_64 : decode cX10_loaf 64 = .ok (.ireturn, 1) := by decide +kernel
theorem dX10_isSign_0 : decode cX10_isSign 0 = .ok (.iload_n 0, 1) := by decide +kernel
theorem dX10_isSign_1 : decode cX10_isSign 1 = .ok (.i2l, 1) := by decide +kernel
theorem dX10_isSign_2 : decode cX10_isSign 2 = .ok (.lconst 0, 1) := by decide +kernel
theorem dX10_isSign_3 : decode cX10_isSign 3 = .ok (.ldc2_w 155, 3) := by decide +kernel
theorem dX10_isSign_6 : decode cX10_isSign 6 = .ok (.invokestatic 65, 3) := by decide +kernel
theorem dX10_isSign_9 : decode cX10_isSign 9 = .ok (.ireturn, 1) := by decide +kernel
theorem dX10_isSpan_0 : decode cX10_isSpan 0 = .ok (.iload_n 0, 1) := by decide +kernel
theorem dX10_isSpan_1 : decode cX10_isSpan 1 = .ok (.i2l, 1) := by decide +kernel
theorem dX10_isSpan_2 : decode cX10_isSpan 2 = .ok (.lconst 0, 1) := by decide +kernel
theorem dX10_isSpan_3 : decode cX10_isSpan 3 = .ok (.ldc2_w 157, 3) := by decide +kernel
theorem dX10_isSpan_6 : decode cX10_isSpan 6 = .ok (.invokestatic 65, 3) := by decide +kernel
theorem dX10_isSpan_9 : decode cX10_isSpan 9 = .ok (.ifCond .eq 19, 3) := by decide +kernel
theorem dX10_isSpan_12 : decode cX10_isSpan 12 = .ok (.iload_n 1, 1) := by decide +kernel
theorem dX10_isSpan_13 : decode cX10_isSpan 13 = .ok (.i2l, 1) := by decide +kernel
theorem dX10_isSpan_14 : decode cX10_isSpan 14 = .ok (.lconst 0, 1) := by decide +kernel
theorem dX10_isSpan_15 : decode cX10_isSpan 15 = .ok (.ldc2_w 131, 3) := by decide +kernel
theorem dX10_isSpan_18 : decode cX10_isSpan 18 = .ok (.invokestatic 65, 3) := by decide +kernel
theorem dX10_isSpan_21 : decode cX10_isSpan 21 = .ok (.ifCond .eq 7, 3) := by decide +kernel
theorem dX10_isSpan_24 : decode cX10_isSpan 24 = .ok (.iconst 1, 1) := by decide +kernel
theorem dX10_isSpan_25 : decode cX10_isSpan 25 = .ok (.goto 4, 3) := by decide +kernel
theorem dX10_isSpan_28 : decode cX10_isSpan 28 = .ok (.iconst 0, 1) := by decide +kernel
theorem dX10_isSpan_29 : decode cX10_isSpan 29 = .ok (.ireturn, 1) := by decide +kernel
theorem dX10_becomes_0 : decode cX10_becomes 0 = .ok (.iload_n 1, 1) := by decide +kernel
theorem dX10_becomes_1 : decode cX10_becomes 1 = .ok (.invokestatic 159, 3) := by decide +kernel
theorem dX10_becomes_4 : decode cX10_becomes 4 = .ok (.ifCond .eq 21, 3) := by decide +kernel
theorem dX10_becomes_7 : decode cX10_becomes 7 = .ok (.iload_n 2, 1) := by decide +kernel
theorem dX10_becomes_8 : decode cX10_becomes 8 = .ok (.iload_n 3, 1) := by decide +kernel
theorem dX10_becomes_9 : decode cX10_becomes 9 = .ok (.invokestatic 162, 3) := by decide +kernel
theorem dX10_becomes_12 : decode cX10_becomes 12 = .ok (.ifCond .eq 13, 3) := by decide +kernel
theorem dX10_becomes_15 : decode cX10_becomes 15 = .ok (.aload_n 0, 1) := by decide +kernel
theorem dX10_becomes_16 : decode cX10_becomes 16 = .ok (.iload_n 1, 1) := by decide +kernel
theorem dX10_becomes_17 : decode cX10_becomes 17 = .ok (.iload_n 2, 1) := by decide +kernel
theorem dX10_becomes_18 : decode cX10_becomes 18 = .ok (.iload_n 3, 1) := by decide +kernel
theorem dX10_becomes_19 : decode cX10_becomes 19 = .ok (.invokevirtual 127, 3) := by decide +kernel
theorem dX10_becomes_22 : decode cX10_becomes 22 = .ok (.goto 4, 3) := by decide +kernel
theorem dX10_becomes_25 : decode cX10_becomes 25 = .ok (.iconst (-1), 1) := by decide +kernel
theorem dX10_becomes_26 : decode cX10_becomes 26 = .ok (.ireturn, 1) := by decide +kernel
theorem dX10_isAble_0 : decode cX10_isAble 0 = .ok (.iconst 0, 1) := by decide +kernel
theorem dX10_isAble_1 : decode cX10_isAble 1 = .ok (.istore 5, 2) := by decide +kernel
theorem dX10_isAble_3 : decode cX10_isAble 3 = .ok (.iload 5, 2) := by decide +kernel
theorem dX10_isAble_5 : decode cX10_isAble 5 = .ok (.iload_n 3, 1) := by decide +kernel
theorem dX10_isAble_6 : decode cX10_isAble 6 = .ok (.if_icmp .gt 40, 3) := by decide +kernel
theorem dX10_isAble_9 : decode cX10_isAble 9 = .ok (.iconst 0, 1) := by decide +kernel
theorem dX10_isAble_10 : decode cX10_isAble 10 = .ok (.istore 6, 2) := by decide +kernel
theorem dX10_isAble_12 : decode cX10_isAble 12 = .ok (.iload 6, 2) := by decide +kernel
theorem dX10_isAble_14 : decode cX10_isAble 14 = .ok (.iload 4, 2) := by decide +kernel
theorem dX10_isAble_16 : decode cX10_isAble 16 = .ok (.if_icmp .gt 24, 3) := by decide +kernel
theorem dX10_isAble_19 : decode cX10_isAble 19 = .ok (.aload_n 0, 1) := by decide +kernel
theorem dX10_isAble_20 : decode cX10_isAble 20 = .ok (.iload_n 1, 1) := by decide +kernel
theorem dX10_isAble_21 : decode cX10_isAble 21 = .ok (.iload 5, 2) := by decide +kernel
theorem dX10_isAble_23 : decode cX10_isAble 23 = .ok (.iload 6, 2) := by decide +kernel
theorem dX10_isAble_25 : decode cX10_isAble 25 = .ok (.invokevirtual 127, 3) := by decide +kernel
theorem dX10_isAble_28 : decode cX10_isAble 28 = .ok (.iload_n 2, 1) := by decide +kernel
theorem dX10_isAble_29 : decode cX10_isAble 29 = .ok (.if_icmp .ne 5, 3) := by decide +kernel
theorem dX10_isAble_32 : decode cX10_isAble 32 = .ok (.iconst 1, 1) := by decide +kernel
theorem dX10_isAble_33 : decode cX10_isAble 33 = .ok (.ireturn, 1) := by decide +kernel
theorem dX10_isAble_34 : decode cX10_isAble 34 = .ok (.iinc 6 1, 3) := by decide +kernel
theorem dX10_isAble_37 : decode cX10_isAble 37 = .ok (.goto (-25), 3) := by decide +kernel
theorem dX10_isAble_40 : decode cX10_isAble 40 = .ok (.iinc 5 1, 3) := by decide +kernel
theorem dX10_isAble_43 : decode cX10_isAble 43 = .ok (.goto (-40), 3) := by decide +kernel
theorem dX10_isAble_46 : decode cX10_isAble 46 = .ok (.iconst 0, 1) := by decide +kernel
theorem dX10_isAble_47 : decode cX10_isAble 47 = .ok (.ireturn, 1) := by decide +kernel
theorem dX10_mayBe_0 : decode cX10_mayBe 0 = .ok (.iload_n 1, 1) := by decide +kernel
theorem dX10_mayBe_1 : decode cX10_mayBe 1 = .ok (.invokestatic 159, 3) := by decide +kernel
theorem dX10_mayBe_4 : decode cX10_mayBe 4 = .ok (.ifCond .eq 11, 3) := by decide +kernel
theorem dX10_mayBe_7 : decode cX10_mayBe 7 = .ok (.iload_n 2, 1) := by decide +kernel
theorem dX10_mayBe_8 : decode cX10_mayBe 8 = .ok (.iload_n 3, 1) := by decide +kernel
theorem dX10_mayBe_9 : decode cX10_mayBe 9 = .ok (.invokestatic 162, 3) := by decide +kernel
theorem dX10_mayBe_12 : decode cX10_mayBe 12 = .ok (.ifCond .ne 5, 3) := by decide +kernel
theorem dX10_mayBe_15 : decode cX10_mayBe 15 = .ok (.iconst (-1), 1) := by decide +kernel
theorem dX10_mayBe_16 : decode cX10_mayBe 16 = .ok (.ireturn, 1) := by decide +kernel
theorem dX10_mayBe_17 : decode cX10_mayBe 17 = .ok (.iconst 0, 1) := by decide +kernel
theorem dX10_mayBe_18 : decode cX10_mayBe 18 = .ok (.istore 4, 2) := by decide +kernel
theorem dX10_mayBe_20 : decode cX10_mayBe 20 = .ok (.iconst 0, 1) := by decide +kernel
theorem dX10_mayBe_21 : decode cX10_mayBe 21 = .ok (.istore 5, 2) := by decide +kernel
theorem dX10_mayBe_23 : decode cX10_mayBe 23 = .ok (.iload 5, 2) := by decide +kernel
theorem dX10_mayBe_25 : decode cX10_mayBe 25 = .ok (.bipush 72, 2) := by decide +kernel
theorem dX10_mayBe_27 : decode cX10_mayBe 27 = .ok (.if_icmp .ge 31, 3) := by decide +kernel
theorem dX10_mayBe_30 : decode cX10_mayBe 30 = .ok (.iload 4, 2) := by decide +kernel
theorem dX10_mayBe_32 : decode cX10_mayBe 32 = .ok (.aload_n 0, 1) := by decide +kernel
theorem dX10_mayBe_33 : decode cX10_mayBe 33 = .ok (.iload_n 1, 1) := by decide +kernel
theorem dX10_mayBe_34 : decode cX10_mayBe 34 = .ok (.iload 5, 2) := by decide +kernel
theorem dX10_mayBe_36 : decode cX10_mayBe 36 = .ok (.iload_n 2, 1) := by decide +kernel
theorem dX10_mayBe_37 : decode cX10_mayBe 37 = .ok (.iload_n 3, 1) := by decide +kernel
theorem dX10_mayBe_38 : decode cX10_mayBe 38 = .ok (.invokevirtual 166, 3) := by decide +kernel
theorem dX10_mayBe_41 : decode cX10_mayBe 41 = .ok (.ifCond .eq 7, 3) := by decide +kernel
theorem dX10_mayBe_44 : decode cX10_mayBe 44 = .ok (.iconst 1, 1) := by decide +kernel
theorem dX10_mayBe_45 : decode cX10_mayBe 45 = .ok (.goto 4, 3) := by decide +kernel
theorem dX10_mayBe_48 : decode cX10_mayBe 48 = .ok (.iconst 0, 1) := by decide +kernel
theorem dX10_mayBe_49 : decode cX10_mayBe 49 = .ok (.iadd, 1) := by decide +kernel
theorem dX10_mayBe_50 : decode cX10_mayBe 50 = .ok (.istore 4, 2) := by decide +kernel
theorem dX10_mayBe_52 : decode cX10_mayBe 52 = .ok (.iinc 5 1, 3) := by decide +kernel
theorem dX10_mayBe_55 : decode cX10_mayBe 55 = .ok (.goto (-32), 3) := by decide +kernel
theorem dX10_mayBe_58 : decode cX10_mayBe 58 = .ok (.iload 4, 2) := by decide +kernel
theorem dX10_mayBe_60 : decode cX10_mayBe 60 = .ok (.ireturn, 1) := by decide +kernel
theorem dX10_can_0 : decode cX10_can 0 = .ok (.iload_n 1, 1) := by decide +kernel
theorem dX10_can_1 : decode cX10_can 1 = .ok (.invokestatic 159, 3) := by decide +kernel
theorem dX10_can_4 : decode cX10_can 4 = .ok (.ifCond .eq 19, 3) := by decide +kernel
theorem dX10_can_7 : decode cX10_can 7 = .ok (.iload_n 2, 1) := by decide +kernel
theorem dX10_can_8 : decode cX10_can 8 = .ok (.invokestatic 159, 3) := by decide +kernel
theorem dX10_can_11 : decode cX10_can 11 = .ok (.ifCond .eq 12, 3) := by decide +kernel
theorem dX10_can_14 : decode cX10_can 14 = .ok (.iload_n 3, 1) := by decide +kernel
theorem dX10_can_15 : decode cX10_can 15 = .ok (.iload 4, 2) := by decide +kernel
theorem dX10_can_17 : decode cX10_can 17 = .ok (.invokestatic 162, 3) := by decide +kernel
theorem dX10_can_20 : decode cX10_can 20 = .ok (.ifCond .ne 7, 3) := by decide +kernel
theorem dX10_can_23 : decode cX10_can 23 = .ok (.iconst (-1), 1) := by decide +kernel
theorem dX10_can_24 : decode cX10_can 24 = .ok (.goto 20, 3) := by decide +kernel
theorem dX10_can_27 : decode cX10_can 27 = .ok (.aload_n 0, 1) := by decide +kernel
theorem dX10_can_28 : decode cX10_can 28 = .ok (.iload_n 1, 1) := by decide +kernel
theorem dX10_can_29 : decode cX10_can 29 = .ok (.iload_n 2, 1) := by decide +kernel
theorem dX10_can_30 : decode cX10_can 30 = .ok (.iload_n 3, 1) := by decide +kernel
theorem dX10_can_31 : decode cX10_can 31 = .ok (.iload 4, 2) := by decide +kernel
theorem dX10_can_33 : decode cX10_can 33 = .ok (.invokevirtual 166, 3) := by decide +kernel
theorem dX10_can_36 : decode cX10_can 36 = .ok (.ifCond .eq 7, 3) := by decide +kernel
theorem dX10_can_39 : decode cX10_can 39 = .ok (.iconst 1, 1) := by decide +kernel
theorem dX10_can_40 : decode cX10_can 40 = .ok (.goto 4, 3) := by decide +kernel
theorem dX10_can_43 : decode cX10_can 43 = .ok (.iconst 0, 1) := by decide +kernel
theorem dX10_can_44 : decode cX10_can 44 = .ok (.ireturn, 1) := by decide +kernel
theorem dX10_was_0 : decode cX10_was 0 = .ok (.iload_n 1, 1) := by decide +kernel
theorem dX10_was_1 : decode cX10_was 1 = .ok (.invokestatic 159, 3) := by decide +kernel
theorem dX10_was_4 : decode cX10_was 4 = .ok (.ifCond .eq 11, 3) := by decide +kernel
theorem dX10_was_7 : decode cX10_was 7 = .ok (.iload_n 2, 1) := by decide +kernel
theorem dX10_was_8 : decode cX10_was 8 = .ok (.iload_n 3, 1) := by decide +kernel
theorem dX10_was_9 : decode cX10_was 9 = .ok (.invokestatic 162, 3) := by decide +kernel
theorem dX10_was_12 : decode cX10_was 12 = .ok (.ifCond .ne 5, 3) := by decide +kernel
theorem dX10_was_15 : decode cX10_was 15 = .ok (.iconst (-1), 1) := by decide +kernel
theorem dX10_was_16 : decode cX10_was 16 = .ok (.ireturn, 1) := by decide +kernel
theorem dX10_was_17 : decode cX10_was 17 = .ok (.iconst 0, 1) := by decide +kernel
theorem dX10_was_18 : decode cX10_was 18 = .ok (.istore 4, 2) := by decide +kernel
theorem dX10_was_20 : decode cX10_was 20 = .ok (.iconst 0, 1) := by decide +kernel
theorem dX10_was_21 : decode cX10_was 21 = .ok (.istore 5, 2) := by decide +kernel
theorem dX10_was_23 : decode cX10_was 23 = .ok (.iload 5, 2) := by decide +kernel
theorem dX10_was_25 : decode cX10_was 25 = .ok (.aload_n 0, 1) := by decide +kernel
theorem dX10_was_26 : decode cX10_was 26 = .ok (.getfield 17, 3) := by decide +kernel
theorem dX10_was_29 : decode cX10_was 29 = .ok (.iconst 0, 1) := by decide +kernel
theorem dX10_was_30 : decode cX10_was 30 = .ok (.iaload, 1) := by decide +kernel
theorem dX10_was_31 : decode cX10_was 31 = .ok (.if_icmp .ge 41, 3) := by decide +kernel
theorem dX10_was_34 : decode cX10_was 34 = .ok (.iload 4, 2) := by decide +kernel
theorem dX10_was_36 : decode cX10_was 36 = .ok (.aload_n 0, 1) := by decide +kernel
theorem dX10_was_37 : decode cX10_was 37 = .ok (.aload_n 0, 1) := by decide +kernel
theorem dX10_was_38 : decode cX10_was 38 = .ok (.getfield 20, 3) := by decide +kernel
theorem dX10_was_41 : decode cX10_was 41 = .ok (.iconst 2, 1) := by decide +kernel
theorem dX10_was_42 : decode cX10_was 42 = .ok (.iload 5, 2) := by decide +kernel
theorem dX10_was_44 : decode cX10_was 44 = .ok (.imul, 1) := by decide +kernel
theorem dX10_was_45 : decode cX10_was 45 = .ok (.iaload, 1) := by decide +kernel
theorem dX10_was_46 : decode cX10_was 46 = .ok (.iload_n 1, 1) := by decide +kernel
theorem dX10_was_47 : decode cX10_was 47 = .ok (.iload_n 2, 1) := by decide +kernel
theorem dX10_was_48 : decode cX10_was 48 = .ok (.iload_n 3, 1) := by decide +kernel
theorem dX10_was_49 : decode cX10_was 49 = .ok (.invokevirtual 166, 3) := by decide +kernel
theorem dX10_was_52 : decode cX10_was 52 = .ok (.ifCond .eq 10, 3) := by decide +kernel
theorem dX10_was_55 : decode cX10_was 55 = .ok (.iconst 1, 1) := by decide +kernel
theorem dX10_was_56 : decode cX10_was 56 = .ok (.iload 5, 2) := by decide +kernel
theorem dX10_was_58 : decode cX10_was 58 = .ok (.ishl, 1) := by decide +kernel
theorem dX10_was_59 : decode cX10_was 59 = .ok (.goto 4, 3) := by decide +kernel
theorem dX10_was_62 : decode cX10_was 62 = .ok (.iconst 0, 1) := by decide +kernel
theorem dX10_was_63 : decode cX10_was 63 = .ok (.ior, 1) := by decide +kernel
theorem dX10_was_64 : decode cX10_was 64 = .ok (.istore 4, 2) := by decide +kernel
theorem dX10_was_66 : decode cX10_was 66 = .ok (.iinc 5 1, 3) := by decide +kernel
theorem dX10_was_69 : decode cX10_was 69 = .ok (.goto (-46), 3) := by decide +kernel
theorem dX10_was_72 : decode cX10_was 72 = .ok (.iload 4, 2) := by decide +kernel
theorem dX10_was_74 : decode cX10_was 74 = .ok (.ireturn, 1) := by decide +kernel
theorem dX10_half_0 : decode cX10_half 0 = .ok (.iload_n 1, 1) := by decide +kernel
theorem dX10_half_1 : decode cX10_half 1 = .ok (.i2l, 1) := by decide +kernel
theorem dX10_half_2 : decode cX10_half 2 = .ok (.lconst 0, 1) := by decide +kernel
theorem dX10_half_3 : decode cX10_half 3 = .ok (.ldc2_w 153, 3) := by decide +kernel
theorem dX10_half_6 : decode cX10_half 6 = .ok (.invokestatic 65, 3) := by decide +kernel
theorem dX10_half_9 : decode cX10_half 9 = .ok (.ifCond .eq 27, 3) := by decide +kernel
theorem dX10_half_12 : decode cX10_half 12 = .ok (.iload_n 2, 1) := by decide +kernel
theorem dX10_half_13 : decode cX10_half 13 = .ok (.i2l, 1) := by decide +kernel
theorem dX10_half_14 : decode cX10_half 14 = .ok (.lconst 0, 1) := by decide +kernel
theorem dX10_half_15 : decode cX10_half 15 = .ok (.ldc2_w 131, 3) := by decide +kernel
theorem dX10_half_18 : decode cX10_half 18 = .ok (.invokestatic 65, 3) := by decide +kernel
theorem dX10_half_21 : decode cX10_half 21 = .ok (.ifCond .eq 15, 3) := by decide +kernel
theorem dX10_half_24 : decode cX10_half 24 = .ok (.iload_n 3, 1) := by decide +kernel
theorem dX10_half_25 : decode cX10_half 25 = .ok (.i2l, 1) := by decide +kernel
theorem dX10_half_26 : decode cX10_half 26 = .ok (.lconst 0, 1) := by decide +kernel
theorem dX10_half_27 : decode cX10_half 27 = .ok (.ldc2_w 80, 3) := by decide +kernel
theorem dX10_half_30 : decode cX10_half 30 = .ok (.invokestatic 65, 3) := by decide +kernel
theorem dX10_half_33 : decode cX10_half 33 = .ok (.ifCond .ne 5, 3) := by decide +kernel
theorem dX10_half_36 : decode cX10_half 36 = .ok (.iconst (-1), 1) := by decide +kernel
theorem dX10_half_37 : decode cX10_half 37 = .ok (.ireturn, 1) := by decide +kernel
theorem dX10_half_38 : decode cX10_half 38 = .ok (.iconst 0, 1) := by decide +kernel
theorem dX10_half_39 : decode cX10_half 39 = .ok (.istore 4, 2) := by decide +kernel
theorem dX10_half_41 : decode cX10_half 41 = .ok (.iconst 0, 1) := by decide +kernel
theorem dX10_half_42 : decode cX10_half 42 = .ok (.istore 5, 2) := by decide +kernel
theorem dX10_half_44 : decode cX10_half 44 = .ok (.iload 5, 2) := by decide +kernel
theorem dX10_half_46 : decode cX10_half 46 = .ok (.aload_n 0, 1) := by decide +kernel
theorem dX10_half_47 : decode cX10_half 47 = .ok (.getfield 17, 3) := by decide +kernel
theorem dX10_half_50 : decode cX10_half 50 = .ok (.iconst 0, 1) := by decide +kernel
theorem dX10_half_51 : decode cX10_half 51 = .ok (.iaload, 1) := by decide +kernel
theorem dX10_half_52 : decode cX10_half 52 = .ok (.if_icmp .ge 62, 3) := by decide +kernel
theorem dX10_half_55 : decode cX10_half 55 = .ok (.aload_n 0, 1) := by decide +kernel
theorem dX10_half_56 : decode cX10_half 56 = .ok (.getfield 20, 3) := by decide +kernel
theorem dX10_half_59 : decode cX10_half 59 = .ok (.iconst 2, 1) := by decide +kernel
theorem dX10_half_60 : decode cX10_half 60 = .ok (.iload 5, 2) := by decide +kernel
theorem dX10_half_62 : decode cX10_half 62 = .ok (.imul, 1) := by decide +kernel
theorem dX10_half_63 : decode cX10_half 63 = .ok (.iaload, 1) := by decide +kernel
theorem dX10_half_64 : decode cX10_half 64 = .ok (.istore 6, 2) := by decide +kernel
theorem dX10_half_66 : decode cX10_half 66 = .ok (.iload 4, 2) := by decide +kernel
theorem dX10_half_68 : decode cX10_half 68 = .ok (.iload 6, 2) := by decide +kernel
theorem dX10_half_70 : decode cX10_half 70 = .ok (.bipush 6, 2) := by decide +kernel
theorem dX10_half_72 : decode cX10_half 72 = .ok (.irem, 1) := by decide +kernel
theorem dX10_half_73 : decode cX10_half 73 = .ok (.iload_n 1, 1) := by decide +kernel
theorem dX10_half_74 : decode cX10_half 74 = .ok (.if_icmp .lt 30, 3) := by decide +kernel
theorem dX10_half_77 : decode cX10_half 77 = .ok (.iload 6, 2) := by decide +kernel
theorem dX10_half_79 : decode cX10_half 79 = .ok (.bipush 6, 2) := by decide +kernel
theorem dX10_half_81 : decode cX10_half 81 = .ok (.idiv, 1) := by decide +kernel
theorem dX10_half_82 : decode cX10_half 82 = .ok (.iconst 4, 1) := by decide +kernel
theorem dX10_half_83 : decode cX10_half 83 = .ok (.irem, 1) := by decide +kernel
theorem dX10_half_84 : decode cX10_half 84 = .ok (.iload_n 2, 1) := by decide +kernel
theorem dX10_half_85 : decode cX10_half 85 = .ok (.if_icmp .lt 19, 3) := by decide +kernel
theorem dX10_half_88 : decode cX10_half 88 = .ok (.iload 6, 2) := by decide +kernel
theorem dX10_half_90 : decode cX10_half 90 = .ok (.bipush 24, 2) := by decide +kernel
theorem dX10_half_92 : decode cX10_half 92 = .ok (.idiv, 1) := by decide +kernel
theorem dX10_half_93 : decode cX10_half 93 = .ok (.iload_n 3, 1) := by decide +kernel
theorem dX10_half_94 : decode cX10_half 94 = .ok (.if_icmp .ne 10, 3) := by decide +kernel
theorem dX10_half_97 : decode cX10_half 97 = .ok (.iconst 1, 1) := by decide +kernel
theorem dX10_half_98 : decode cX10_half 98 = .ok (.iload 5, 2) := by decide +kernel
theorem dX10_half_100 : decode cX10_half 100 = .ok (.ishl, 1) := by decide +kernel
theorem dX10_half_101 : decode cX10_half 101 = .ok (.goto 4, 3) := by decide +kernel
theorem dX10_half_104 : decode cX10_half 104 = .ok (.iconst 0, 1) := by decide +kernel
theorem dX10_half_105 : decode cX10_half 105 = .ok (.ior, 1) := by decide +kernel
theorem dX10_half_106 : decode cX10_half 106 = .ok (.istore 4, 2) := by decide +kernel
theorem dX10_half_108 : decode cX10_half 108 = .ok (.iinc 5 1, 3) := by decide +kernel
theorem dX10_half_111 : decode cX10_half 111 = .ok (.goto (-67), 3) := by decide +kernel
theorem dX10_half_114 : decode cX10_half 114 = .ok (.iload 4, 2) := by decide +kernel
theorem dX10_half_116 : decode cX10_half 116 = .ok (.ireturn, 1) := by decide +kernel
theorem dX10_isApart_0 : decode cX10_isApart 0 = .ok (.iconst 1, 1) := by decide +kernel
theorem dX10_isApart_1 : decode cX10_isApart 1 = .ok (.istore_n 3, 1) := by decide +kernel
theorem dX10_isApart_2 : decode cX10_isApart 2 = .ok (.iconst 0, 1) := by decide +kernel
theorem dX10_isApart_3 : decode cX10_isApart 3 = .ok (.istore 4, 2) := by decide +kernel
theorem dX10_isApart_5 : decode cX10_isApart 5 = .ok (.iload 4, 2) := by decide +kernel
theorem dX10_isApart_7 : decode cX10_isApart 7 = .ok (.bipush 72, 2) := by decide +kernel
theorem dX10_isApart_9 : decode cX10_isApart 9 = .ok (.if_icmp .ge 49, 3) := by decide +kernel
theorem dX10_isApart_12 : decode cX10_isApart 12 = .ok (.iload_n 3, 1) := by decide +kernel
theorem dX10_isApart_13 : decode cX10_isApart 13 = .ok (.ifCond .eq 37, 3) := by decide +kernel
theorem dX10_isApart_16 : decode cX10_isApart 16 = .ok (.aload_n 0, 1) := by decide +kernel
theorem dX10_isApart_17 : decode cX10_isApart 17 = .ok (.getfield 47, 3) := by decide +kernel
theorem dX10_isApart_20 : decode cX10_isApart 20 = .ok (.bipush 72, 2) := by decide +kernel
theorem dX10_isApart_22 : decode cX10_isApart 22 = .ok (.iload_n 1, 1) := by decide +kernel
theorem dX10_isApart_23 : decode cX10_isApart 23 = .ok (.imul, 1) := by decide +kernel
theorem dX10_isApart_24 : decode cX10_isApart 24 = .ok (.iload 4, 2) := by decide +kernel
theorem dX10_isApart_26 : decode cX10_isApart 26 = .ok (.iadd, 1) := by decide +kernel
theorem dX10_isApart_27 : decode cX10_isApart 27 = .ok (.baload, 1) := by decide +kernel
theorem dX10_isApart_28 : decode cX10_isApart 28 = .ok (.ifCond .eq 18, 3) := by decide +kernel
theorem dX10_isApart_31 : decode cX10_isApart 31 = .ok (.aload_n 0, 1) := by decide +kernel
theorem dX10_isApart_32 : decode cX10_isApart 32 = .ok (.getfield 47, 3) := by decide +kernel
theorem dX10_isApart_35 : decode cX10_isApart 35 = .ok (.bipush 72, 2) := by decide +kernel
theorem dX10_isApart_37 : decode cX10_isApart 37 = .ok (.iload_n 2, 1) := by decide +kernel
theorem dX10_isApart_38 : decode cX10_isApart 38 = .ok (.imul, 1) := by decide +kernel
theorem dX10_isApart_39 : decode cX10_isApart 39 = .ok (.iload 4, 2) := by decide +kernel
theorem dX10_isApart_41 : decode cX10_isApart 41 = .ok (.iadd, 1) := by decide +kernel
theorem dX10_isApart_42 : decode cX10_isApart 42 = .ok (.baload, 1) := by decide +kernel
theorem dX10_isApart_43 : decode cX10_isApart 43 = .ok (.ifCond .ne 7, 3) := by decide +kernel
theorem dX10_isApart_46 : decode cX10_isApart 46 = .ok (.iconst 1, 1) := by decide +kernel
theorem dX10_isApart_47 : decode cX10_isApart 47 = .ok (.goto 4, 3) := by decide +kernel
theorem dX10_isApart_50 : decode cX10_isApart 50 = .ok (.iconst 0, 1) := by decide +kernel
theorem dX10_isApart_51 : decode cX10_isApart 51 = .ok (.istore_n 3, 1) := by decide +kernel
theorem dX10_isApart_52 : decode cX10_isApart 52 = .ok (.iinc 4 1, 3) := by decide +kernel
theorem dX10_isApart_55 : decode cX10_isApart 55 = .ok (.goto (-50), 3) := by decide +kernel
theorem dX10_isApart_58 : decode cX10_isApart 58 = .ok (.iload_n 3, 1) := by decide +kernel
theorem dX10_isApart_59 : decode cX10_isApart 59 = .ok (.ireturn, 1) := by decide +kernel
theorem dX10_codes_0 : decode cX10_codes 0 = .ok (.iload_n 1, 1) := by decide +kernel
theorem dX10_codes_1 : decode cX10_codes 1 = .ok (.invokestatic 114, 3) := by decide +kernel
theorem dX10_codes_4 : decode cX10_codes 4 = .ok (.iload_n 2, 1) := by decide +kernel
theorem dX10_codes_5 : decode cX10_codes 5 = .ok (.ifCond .ge 7, 3) := by decide +kernel
theorem dX10_codes_8 : decode cX10_codes 8 = .ok (.iconst 0, 1) := by decide +kernel
theorem dX10_codes_9 : decode cX10_codes 9 = .ok (.goto 7, 3) := by decide +kernel
theorem dX10_codes_12 : decode cX10_codes 12 = .ok (.iload_n 2, 1) := by decide +kernel
theorem dX10_codes_13 : decode cX10_codes 13 = .ok (.invokestatic 114, 3) := by decide +kernel
theorem dX10_codes_16 : decode cX10_codes 16 = .ok (.iadd, 1) := by decide +kernel
theorem dX10_codes_17 : decode cX10_codes 17 = .ok (.iload_n 3, 1) := by decide +kernel
theorem dX10_codes_18 : decode cX10_codes 18 = .ok (.ifCond .ge 7, 3) := by decide +kernel
theorem dX10_codes_21 : decode cX10_codes 21 = .ok (.iconst 0, 1) := by decide +kernel
theorem dX10_codes_22 : decode cX10_codes 22 = .ok (.goto 7, 3) := by decide +kernel
theorem dX10_codes_25 : decode cX10_codes 25 = .ok (.iload_n 3, 1) := by decide +kernel
theorem dX10_codes_26 : decode cX10_codes 26 = .ok (.invokestatic 114, 3) := by decide +kernel
theorem dX10_codes_29 : decode cX10_codes 29 = .ok (.iadd, 1) := by decide +kernel
theorem dX10_codes_30 : decode cX10_codes 30 = .ok (.istore 4, 2) := by decide +kernel
theorem dX10_codes_32 : decode cX10_codes 32 = .ok (.aload_n 0, 1) := by decide +kernel
theorem dX10_codes_33 : decode cX10_codes 33 = .ok (.getfield 170, 3) := by decide +kernel
theorem dX10_codes_36 : decode cX10_codes 36 = .ok (.ifCond .lt 12, 3) := by decide +kernel
theorem dX10_codes_39 : decode cX10_codes 39 = .ok (.iload 4, 2) := by decide +kernel
theorem dX10_codes_41 : decode cX10_codes 41 = .ok (.aload_n 0, 1) := by decide +kernel
theorem dX10_codes_42 : decode cX10_codes 42 = .ok (.getfield 170, 3) := by decide +kernel
theorem dX10_codes_45 : decode cX10_codes 45 = .ok (.if_icmp .ge 30, 3) := by decide +kernel
theorem dX10_codes_48 : decode cX10_codes 48 = .ok (.aload_n 0, 1) := by decide +kernel
theorem dX10_codes_49 : decode cX10_codes 49 = .ok (.iload 4, 2) := by decide +kernel
theorem dX10_codes_51 : decode cX10_codes 51 = .ok (.putfield 170, 3) := by decide +kernel
theorem dX10_codes_54 : decode cX10_codes 54 = .ok (.aload_n 0, 1) := by decide +kernel
theorem dX10_codes_55 : decode cX10_codes 55 = .ok (.getfield 51, 3) := by decide +kernel
theorem dX10_codes_58 : decode cX10_codes 58 = .ok (.iconst 0, 1) := by decide +kernel
theorem dX10_codes_59 : decode cX10_codes 59 = .ok (.iload_n 1, 1) := by decide +kernel
theorem dX10_codes_60 : decode cX10_codes 60 = .ok (.iastore, 1) := by decide +kernel
theorem dX10_codes_61 : decode cX10_codes 61 = .ok (.aload_n 0, 1) := by decide +kernel
theorem dX10_codes_62 : decode cX10_codes 62 = .ok (.getfield 51, 3) := by decide +kernel
theorem dX10_codes_65 : decode cX10_codes 65 = .ok (.iconst 1, 1) := by decide +kernel
theorem dX10_codes_66 : decode cX10_codes 66 = .ok (.iload_n 2, 1) := by decide +kernel
theorem dX10_codes_67 : decode cX10_codes 67 = .ok (.iastore, 1) := by decide +kernel
theorem dX10_codes_68 : decode cX10_codes 68 = .ok (.aload_n 0, 1) := by decide +kernel
theorem dX10_codes_69 : decode cX10_codes 69 = .ok (.getfield 51, 3) := by decide +kernel
theorem dX10_codes_72 : decode cX10_codes 72 = .ok (.iconst 2, 1) := by decide +kernel
theorem dX10_codes_73 : decode cX10_codes 73 = .ok (.iload_n 3, 1) := by decide +kernel
theorem dX10_codes_74 : decode cX10_codes 74 = .ok (.iastore, 1) := by decide +kernel
theorem dX10_codes_75 : decode cX10_codes 75 = .ok (.return_, 1) := by decide +kernel
theorem dX10_code_0 : decode cX10_code 0 = .ok (.iload_n 1, 1) := by decide +kernel
theorem dX10_code_1 : decode cX10_code 1 = .ok (.i2l, 1) := by decide +kernel
theorem dX10_code_2 : decode cX10_code 2 = .ok (.lconst 1, 1) := by decide +kernel
theorem dX10_code_3 : decode cX10_code 3 = .ok (.ldc2_w 131, 3) := by decide +kernel
theorem dX10_code_6 : decode cX10_code 6 = .ok (.invokestatic 65, 3) := by decide +kernel
theorem dX10_code_9 : decode cX10_code 9 = .ok (.ifCond .eq 27, 3) := by decide +kernel
theorem dX10_code_12 : decode cX10_code 12 = .ok (.iload_n 2, 1) := by decide +kernel
theorem dX10_code_13 : decode cX10_code 13 = .ok (.iload_n 3, 1) := by decide +kernel
theorem dX10_code_14 : decode cX10_code 14 = .ok (.invokestatic 162, 3) := by decide +kernel
theorem dX10_code_17 : decode cX10_code 17 = .ok (.ifCond .eq 19, 3) := by decide +kernel
theorem dX10_code_20 : decode cX10_code 20 = .ok (.iload 4, 2) := by decide +kernel
theorem dX10_code_22 : decode cX10_code 22 = .ok (.i2l, 1) := by decide +kernel
theorem dX10_code_23 : decode cX10_code 23 = .ok (.ldc2_w 173, 3) := by decide +kernel
theorem dX10_code_26 : decode cX10_code 26 = .ok (.iload_n 1, 1) := by decide +kernel
theorem dX10_code_27 : decode cX10_code 27 = .ok (.iconst 1, 1) := by decide +kernel
theorem dX10_code_28 : decode cX10_code 28 = .ok (.isub, 1) := by decide +kernel
theorem dX10_code_29 : decode cX10_code 29 = .ok (.i2l, 1) := by decide +kernel
theorem dX10_code_30 : decode cX10_code 30 = .ok (.invokestatic 65, 3) := by decide +kernel
theorem dX10_code_33 : decode cX10_code 33 = .ok (.ifCond .ne 5, 3) := by decide +kernel
theorem dX10_code_36 : decode cX10_code 36 = .ok (.iconst (-1), 1) := by decide +kernel
theorem dX10_code_37 : decode cX10_code 37 = .ok (.ireturn, 1) := by decide +kernel
theorem dX10_code_38 : decode cX10_code 38 = .ok (.iconst 0, 1) := by decide +kernel
theorem dX10_code_39 : decode cX10_code 39 = .ok (.istore 5, 2) := by decide +kernel
theorem dX10_code_41 : decode cX10_code 41 = .ok (.iload 5, 2) := by decide +kernel
theorem dX10_code_43 : decode cX10_code 43 = .ok (.sipush 5184, 3) := by decide +kernel
theorem dX10_code_46 : decode cX10_code 46 = .ok (.if_icmp .ge 17, 3) := by decide +kernel
theorem dX10_code_49 : decode cX10_code 49 = .ok (.aload_n 0, 1) := by decide +kernel
theorem dX10_code_50 : decode cX10_code 50 = .ok (.getfield 47, 3) := by decide +kernel
theorem dX10_code_53 : decode cX10_code 53 = .ok (.iload 5, 2) := by decide +kernel
theorem dX10_code_55 : decode cX10_code 55 = .ok (.iconst 0, 1) := by decide +kernel
theorem dX10_code_56 : decode cX10_code 56 = .ok (.bastore, 1) := by decide +kernel
theorem dX10_code_57 : decode cX10_code 57 = .ok (.iinc 5 1, 3) := by decide +kernel
theorem dX10_code_60 : decode cX10_code 60 = .ok (.goto (-19), 3) := by decide +kernel
theorem dX10_code_63 : decode cX10_code 63 = .ok (.iconst 0, 1) := by decide +kernel
theorem dX10_code_64 : decode cX10_code 64 = .ok (.istore 5, 2) := by decide +kernel
theorem dX10_code_66 : decode cX10_code 66 = .ok (.iload 5, 2) := by decide +kernel
theorem dX10_code_68 : decode cX10_code 68 = .ok (.bipush 72, 2) := by decide +kernel
theorem dX10_code_70 : decode cX10_code 70 = .ok (.if_icmp .ge 67, 3) := by decide +kernel
theorem dX10_code_73 : decode cX10_code 73 = .ok (.iconst 0, 1) := by decide +kernel
theorem dX10_code_74 : decode cX10_code 74 = .ok (.istore 6, 2) := by decide +kernel
theorem dX10_code_76 : decode cX10_code 76 = .ok (.iload 6, 2) := by decide +kernel
theorem dX10_code_78 : decode cX10_code 78 = .ok (.bipush 84, 2) := by decide +kernel
theorem dX10_code_80 : decode cX10_code 80 = .ok (.if_icmp .ge 51, 3) := by decide +kernel
theorem dX10_code_83 : decode cX10_code 83 = .ok (.iload 6, 2) := by decide +kernel
theorem dX10_code_85 : decode cX10_code 85 = .ok (.iconst 4, 1) := by decide +kernel
theorem dX10_code_86 : decode cX10_code 86 = .ok (.idiv, 1) := by decide +kernel
theorem dX10_code_87 : decode cX10_code 87 = .ok (.iload_n 2, 1) := by decide +kernel
theorem dX10_code_88 : decode cX10_code 88 = .ok (.if_icmp .gt 37, 3) := by decide +kernel
theorem dX10_code_91 : decode cX10_code 91 = .ok (.iload 6, 2) := by decide +kernel
theorem dX10_code_93 : decode cX10_code 93 = .ok (.iconst 4, 1) := by decide +kernel
theorem dX10_code_94 : decode cX10_code 94 = .ok (.irem, 1) := by decide +kernel
theorem dX10_code_95 : decode cX10_code 95 = .ok (.iload_n 3, 1) := by decide +kernel
theorem dX10_code_96 : decode cX10_code 96 = .ok (.if_icmp .gt 29, 3) := by decide +kernel
theorem dX10_code_99 : decode cX10_code 99 = .ok (.aload_n 0, 1) := by decide +kernel
theorem dX10_code_100 : decode cX10_code 100 = .ok (.getfield 47, 3) := by decide +kernel
theorem dX10_code_103 : decode cX10_code 103 = .ok (.bipush 72, 2) := by decide +kernel
theorem dX10_code_105 : decode cX10_code 105 = .ok (.iload 5, 2) := by decide +kernel
theorem dX10_code_107 : decode cX10_code 107 = .ok (.imul, 1) := by decide +kernel
theorem dX10_code_108 : decode cX10_code 108 = .ok (.aload_n 0, 1) := by decide +kernel
theorem dX10_code_109 : decode cX10_code 109 = .ok (.iload 5, 2) := by decide +kernel
theorem dX10_code_111 : decode cX10_code 111 = .ok (.iload 6, 2) := by decide +kernel
theorem dX10_code_113 : decode cX10_code 113 = .ok (.iconst 4, 1) := by decide +kernel
theorem dX10_code_114 : decode cX10_code 114 = .ok (.idiv, 1) := by decide +kernel
theorem dX10_code_115 : decode cX10_code 115 = .ok (.iload 6, 2) := by decide +kernel
theorem dX10_code_117 : decode cX10_code 117 = .ok (.iconst 4, 1) := by decide +kernel
theorem dX10_code_118 : decode cX10_code 118 = .ok (.irem, 1) := by decide +kernel
theorem dX10_code_119 : decode cX10_code 119 = .ok (.invokevirtual 127, 3) := by decide +kernel
theorem dX10_code_122 : decode cX10_code 122 = .ok (.iadd, 1) := by decide +kernel
theorem dX10_code_123 : decode cX10_code 123 = .ok (.iconst 1, 1) := by decide +kernel
theorem dX10_code_124 : decode cX10_code 124 = .ok (.bastore, 1) := by decide +kernel
theorem dX10_code_125 : decode cX10_code 125 = .ok (.iinc 6 1, 3) := by decide +kernel
theorem dX10_code_128 : decode cX10_code 128 = .ok (.goto (-52), 3) := by decide +kernel
theorem dX10_code_131 : decode cX10_code 131 = .ok (.iinc 5 1, 3) := by decide +kernel
theorem dX10_code_134 : decode cX10_code 134 = .ok (.goto (-68), 3) := by decide +kernel
theorem dX10_code_137 : decode cX10_code 137 = .ok (.aload_n 0, 1) := by decide +kernel
theorem dX10_code_138 : decode cX10_code 138 = .ok (.bipush (-4), 2) := by decide +kernel
theorem dX10_code_140 : decode cX10_code 140 = .ok (.putfield 170, 3) := by decide +kernel
theorem dX10_code_143 : decode cX10_code 143 = .ok (.iconst 0, 1) := by decide +kernel
theorem dX10_code_144 : decode cX10_code 144 = .ok (.istore 5, 2) := by decide +kernel
theorem dX10_code_146 : decode cX10_code 146 = .ok (.iload 5, 2) := by decide +kernel
theorem dX10_code_148 : decode cX10_code 148 = .ok (.bipush 72, 2) := by decide +kernel
theorem dX10_code_150 : decode cX10_code 150 = .ok (.if_icmp .ge 127, 3) := by decide +kernel
theorem dX10_code_153 : decode cX10_code 153 = .ok (.iload_n 1, 1) := by decide +kernel
theorem dX10_code_154 : decode cX10_code 154 = .ok (.iconst 1, 1) := by decide +kernel
theorem dX10_code_155 : decode cX10_code 155 = .ok (.if_icmp .ne 11, 3) := by decide +kernel
theorem dX10_code_158 : decode cX10_code 158 = .ok (.aload_n 0, 1) := by decide +kernel
theorem dX10_code_159 : decode cX10_code 159 = .ok (.iload 5, 2) := by decide +kernel
theorem dX10_code_161 : decode cX10_code 161 = .ok (.iconst (-1), 1) := by decide +kernel
theorem dX10_code_162 : decode cX10_code 162 = .ok (.iconst (-1), 1) := by decide +kernel
theorem dX10_code_163 : decode cX10_code 163 = .ok (.invokevirtual 175, 3) := by decide +kernel
theorem dX10_code_166 : decode cX10_code 166 = .ok (.iload 5, 2) := by decide +kernel
theorem dX10_code_168 : decode cX10_code 168 = .ok (.iconst 1, 1) := by decide +kernel
theorem dX10_code_169 : decode cX10_code 169 = .ok (.iadd, 1) := by decide +kernel
theorem dX10_code_170 : decode cX10_code 170 = .ok (.istore 6, 2) := by decide +kernel
theorem dX10_code_172 : decode cX10_code 172 = .ok (.iload 6, 2) := by decide +kernel
theorem dX10_code_174 : decode cX10_code 174 = .ok (.bipush 72, 2) := by decide +kernel
theorem dX10_code_176 : decode cX10_code 176 = .ok (.if_icmp .ge 95, 3) := by decide +kernel
theorem dX10_code_179 : decode cX10_code 179 = .ok (.iload_n 1, 1) := by decide +kernel
theorem dX10_code_180 : decode cX10_code 180 = .ok (.iconst 1, 1) := by decide +kernel
theorem dX10_code_181 : decode cX10_code 181 = .ok (.if_icmp .le 90, 3) := by decide +kernel
theorem dX10_code_184 : decode cX10_code 184 = .ok (.aload_n 0, 1) := by decide +kernel
theorem dX10_code_185 : decode cX10_code 185 = .ok (.iload 5, 2) := by decide +kernel
theorem dX10_code_187 : decode cX10_code 187 = .ok (.iload 6, 2) := by decide +kernel
theorem dX10_code_189 : decode cX10_code 189 = .ok (.invokevirtual 179, 3) := by decide +kernel
theorem dX10_code_192 : decode cX10_code 192 = .ok (.ifCond .eq 73, 3) := by decide +kernel
theorem dX10_code_195 : decode cX10_code 195 = .ok (.iload_n 1, 1) := by decide +kernel
theorem dX10_code_196 : decode cX10_code 196 = .ok (.iconst 2, 1) := by decide +kernel
theorem dX10_code_197 : decode cX10_code 197 = .ok (.if_icmp .ne 12, 3) := by decide +kernel
theorem dX10_code_200 : decode cX10_code 200 = .ok (.aload_n 0, 1) := by decide +kernel
theorem dX10_code_201 : decode cX10_code 201 = .ok (.iload 5, 2) := by decide +kernel
theorem dX10_code_203 : decode cX10_code 203 = .ok (.iload 6, 2) := by decide +kernel
theorem dX10_code_205 : decode cX10_code 205 = .ok (.iconst (-1), 1) := by decide +kernel
theorem dX10_code_206 : decode cX10_code 206 = .ok (.invokevirtual 175, 3) := by decide +kernel
theorem dX10_code_209 : decode cX10_code 209 = .ok (.iload 6, 2) := by decide +kernel
theorem dX10_code_211 : decode cX10_code 211 = .ok (.iconst 1, 1) := by decide +kernel
theorem dX10_code_212 : decode cX10_code 212 = .ok (.iadd, 1) := by decide +kernel
theorem dX10_code_213 : decode cX10_code 213 = .ok (.istore 7, 2) := by decide +kernel
theorem dX10_code_215 : decode cX10_code 215 = .ok (.iload 7, 2) := by decide +kernel
theorem dX10_code_217 : decode cX10_code 217 = .ok (.bipush 72, 2) := by decide +kernel
theorem dX10_code_219 : decode cX10_code 219 = .ok (.if_icmp .ge 46, 3) := by decide +kernel
theorem dX10_code_222 : decode cX10_code 222 = .ok (.iload_n 1, 1) := by decide +kernel
theorem dX10_code_223 : decode cX10_code 223 = .ok (.iconst 2, 1) := by decide +kernel
theorem dX10_code_224 : decode cX10_code 224 = .ok (.if_icmp .le 41, 3) := by decide +kernel
theorem dX10_code_227 : decode cX10_code 227 = .ok (.aload_n 0, 1) := by decide +kernel
theorem dX10_code_228 : decode cX10_code 228 = .ok (.iload 5, 2) := by decide +kernel
theorem dX10_code_230 : decode cX10_code 230 = .ok (.iload 7, 2) := by decide +kernel
theorem dX10_code_232 : decode cX10_code 232 = .ok (.invokevirtual 179, 3) := by decide +kernel
theorem dX10_code_235 : decode cX10_code 235 = .ok (.ifCond .eq 24, 3) := by decide +kernel
theorem dX10_code_238 : decode cX10_code 238 = .ok (.aload_n 0, 1) := by decide +kernel
theorem dX10_code_239 : decode cX10_code 239 = .ok (.iload 6, 2) := by decide +kernel
theorem dX10_code_241 : decode cX10_code 241 = .ok (.iload 7, 2) := by decide +kernel
theorem dX10_code_243 : decode cX10_code 243 = .ok (.invokevirtual 179, 3) := by decide +kernel
theorem dX10_code_246 : decode cX10_code 246 = .ok (.ifCond .eq 13, 3) := by decide +kernel
theorem dX10_code_249 : decode cX10_code 249 = .ok (.aload_n 0, 1) := by decide +kernel
theorem dX10_code_250 : decode cX10_code 250 = .ok (.iload 5, 2) := by decide +kernel
theorem dX10_code_252 : decode cX10_code 252 = .ok (.iload 6, 2) := by decide +kernel
theorem dX10_code_254 : decode cX10_code 254 = .ok (.iload 7, 2) := by decide +kernel
theorem dX10_code_256 : decode cX10_code 256 = .ok (.invokevirtual 175, 3) := by decide +kernel
theorem dX10_code_259 : decode cX10_code 259 = .ok (.iinc 7 1, 3) := by decide +kernel
theorem dX10_code_262 : decode cX10_code 262 = .ok (.goto (-47), 3) := by decide +kernel
theorem dX10_code_265 : decode cX10_code 265 = .ok (.iinc 6 1, 3) := by decide +kernel
theorem dX10_code_268 : decode cX10_code 268 = .ok (.goto (-96), 3) := by decide +kernel
theorem dX10_code_271 : decode cX10_code 271 = .ok (.iinc 5 1, 3) := by decide +kernel
theorem dX10_code_274 : decode cX10_code 274 = .ok (.goto (-128), 3) := by decide +kernel
theorem dX10_code_277 : decode cX10_code 277 = .ok (.aload_n 0, 1) := by decide +kernel
theorem dX10_code_278 : decode cX10_code 278 = .ok (.getfield 170, 3) := by decide +kernel
theorem dX10_code_281 : decode cX10_code 281 = .ok (.ifCond .lt 8, 3) := by decide +kernel
theorem dX10_code_284 : decode cX10_code 284 = .ok (.iload 4, 2) := by decide +kernel
theorem dX10_code_286 : decode cX10_code 286 = .ok (.ifCond .ge 10, 3) := by decide +kernel
theorem dX10_code_289 : decode cX10_code 289 = .ok (.aload_n 0, 1) := by decide +kernel
theorem dX10_code_290 : decode cX10_code 290 = .ok (.getfield 170, 3) := by decide +kernel
theorem dX10_code_293 : decode cX10_code 293 = .ok (.goto 10, 3) := by decide +kernel
theorem dX10_code_296 : decode cX10_code 296 = .ok (.aload_n 0, 1) := by decide +kernel
theorem dX10_code_297 : decode cX10_code 297 = .ok (.getfield 51, 3) := by decide +kernel
theorem dX10_code_300 : decode cX10_code 300 = .ok (.iload 4, 2) := by decide +kernel
theorem dX10_code_302 : decode cX10_code 302 = .ok (.iaload, 1) := by decide +kernel
theorem dX10_code_303 : decode cX10_code 303 = .ok (.ireturn, 1) := by decide +kernel
theorem dX10_isCarrier_0 : decode cX10_isCarrier 0 = .ok (.iload_n 1, 1) := by decide +kernel
theorem dX10_isCarrier_1 : decode cX10_isCarrier 1 = .ok (.i2l, 1) := by decide +kernel
theorem dX10_isCarrier_2 : decode cX10_isCarrier 2 = .ok (.lconst 0, 1) := by decide +kernel
theorem dX10_isCarrier_3 : decode cX10_isCarrier 3 = .ok (.aload_n 0, 1) := by decide +kernel
theorem dX10_isCarrier_4 : decode cX10_isCarrier 4 = .ok (.getfield 23, 3) := by decide +kernel
theorem dX10_isCarrier_7 : decode cX10_isCarrier 7 = .ok (.iconst 0, 1) := by decide +kernel
theorem dX10_isCarrier_8 : decode cX10_isCarrier 8 = .ok (.iaload, 1) := by decide +kernel
theorem dX10_isCarrier_9 : decode cX10_isCarrier 9 = .ok (.iconst 1, 1) := by decide +kernel
theorem dX10_isCarrier_10 : decode cX10_isCarrier 10 = .ok (.isub, 1) := by decide +kernel
theorem dX10_isCarrier_11 : decode cX10_isCarrier 11 = .ok (.i2l, 1) := by decide +kernel
theorem dX10_isCarrier_12 : decode cX10_isCarrier 12 = .ok (.invokestatic 65, 3) := by decide +kernel
theorem dX10_isCarrier_15 : decode cX10_isCarrier 15 = .ok (.ireturn, 1) := by decide +kernel
theorem dX10_power_0 : decode cX10_power 0 = .ok (.lconst 1, 1) := by decide +kernel
theorem dX10_power_1 : decode cX10_power 1 = .ok (.lstore_n 3, 1) := by decide +kernel
theorem dX10_power_2 : decode cX10_power 2 = .ok (.iconst 0, 1) := by decide +kernel
theorem dX10_power_3 : decode cX10_power 3 = .ok (.istore 5, 2) := by decide +kernel
theorem dX10_power_5 : decode cX10_power 5 = .ok (.iload 5, 2) := by decide +kernel
theorem dX10_power_7 : decode cX10_power 7 = .ok (.iload_n 2, 1) := by decide +kernel
theorem dX10_power_8 : decode cX10_power 8 = .ok (.if_icmp .ge 13, 3) := by decide +kernel
theorem dX10_power_11 : decode cX10_power 11 = .ok (.lload_n 3, 1) := by decide +kernel
theorem dX10_power_12 : decode cX10_power 12 = .ok (.lload_n 0, 1) := by decide +kernel
theorem dX10_power_13 : decode cX10_power 13 = .ok (.lmul, 1) := by decide +kernel
theorem dX10_power_14 : decode cX10_power 14 = .ok (.lstore_n 3, 1) := by decide +kernel
theorem dX10_power_15 : decode cX10_power 15 = .ok (.iinc 5 1, 3) := by decide +kernel
theorem dX10_power_18 : decode cX10_power 18 = .ok (.goto (-13), 3) := by decide +kernel
theorem dX10_power_21 : decode cX10_power 21 = .ok (.lload_n 3, 1) := by decide +kernel
theorem dX10_power_22 : decode cX10_power 22 = .ok (.lreturn, 1) := by decide +kernel
theorem dX10_reads_0 : decode cX10_reads 0 = .ok (.aload_n 0, 1) := by decide +kernel
theorem dX10_reads_1 : decode cX10_reads 1 = .ok (.getfield 26, 3) := by decide +kernel
theorem dX10_reads_4 : decode cX10_reads 4 = .ok (.iconst 2, 1) := by decide +kernel
theorem dX10_reads_5 : decode cX10_reads 5 = .ok (.iload_n 2, 1) := by decide +kernel
theorem dX10_reads_6 : decode cX10_reads 6 = .ok (.imul, 1) := by decide +kernel
theorem dX10_reads_7 : decode cX10_reads 7 = .ok (.iaload, 1) := by decide +kernel
theorem dX10_reads_8 : decode cX10_reads 8 = .ok (.istore 4, 2) := by decide +kernel
theorem dX10_reads_10 : decode cX10_reads 10 = .ok (.aload_n 0, 1) := by decide +kernel
theorem dX10_reads_11 : decode cX10_reads 11 = .ok (.getfield 26, 3) := by decide +kernel
theorem dX10_reads_14 : decode cX10_reads 14 = .ok (.iconst 2, 1) := by decide +kernel
theorem dX10_reads_15 : decode cX10_reads 15 = .ok (.iload_n 2, 1) := by decide +kernel
theorem dX10_reads_16 : decode cX10_reads 16 = .ok (.imul, 1) := by decide +kernel
theorem dX10_reads_17 : decode cX10_reads 17 = .ok (.iconst 1, 1) := by decide +kernel
theorem dX10_reads_18 : decode cX10_reads 18 = .ok (.iadd, 1) := by decide +kernel
theorem dX10_reads_19 : decode cX10_reads 19 = .ok (.iaload, 1) := by decide +kernel
theorem dX10_reads_20 : decode cX10_reads 20 = .ok (.istore 5, 2) := by decide +kernel
theorem dX10_reads_22 : decode cX10_reads 22 = .ok (.lconst 0, 1) := by decide +kernel
theorem dX10_reads_23 : decode cX10_reads 23 = .ok (.lstore 6, 2) := by decide +kernel
theorem dX10_reads_25 : decode cX10_reads 25 = .ok (.lconst 1, 1) := by decide +kernel
theorem dX10_reads_26 : decode cX10_reads 26 = .ok (.lstore 8, 2) := by decide +kernel
theorem dX10_reads_28 : decode cX10_reads 28 = .ok (.iconst 0, 1) := by decide +kernel
theorem dX10_reads_29 : decode cX10_reads 29 = .ok (.istore 10, 2) := by decide +kernel
theorem dX10_reads_31 : decode cX10_reads 31 = .ok (.iload 10, 2) := by decide +kernel
theorem dX10_reads_33 : decode cX10_reads 33 = .ok (.iload 5, 2) := by decide +kernel
theorem dX10_reads_35 : decode cX10_reads 35 = .ok (.if_icmp .gt 88, 3) := by decide +kernel
theorem dX10_reads_38 : decode cX10_reads 38 = .ok (.lload 6, 2) := by decide +kernel
theorem dX10_reads_40 : decode cX10_reads 40 = .ok (.aload_n 0, 1) := by decide +kernel
theorem dX10_reads_41 : decode cX10_reads 41 = .ok (.aload_n 0, 1) := by decide +kernel
theorem dX10_reads_42 : decode cX10_reads 42 = .ok (.getfield 20, 3) := by decide +kernel
theorem dX10_reads_45 : decode cX10_reads 45 = .ok (.iconst 2, 1) := by decide +kernel
theorem dX10_reads_46 : decode cX10_reads 46 = .ok (.iload_n 1, 1) := by decide +kernel
theorem dX10_reads_47 : decode cX10_reads 47 = .ok (.imul, 1) := by decide +kernel
theorem dX10_reads_48 : decode cX10_reads 48 = .ok (.iaload, 1) := by decide +kernel
theorem dX10_reads_49 : decode cX10_reads 49 = .ok (.iload_n 3, 1) := by decide +kernel
theorem dX10_reads_50 : decode cX10_reads 50 = .ok (.iload 10, 2) := by decide +kernel
theorem dX10_reads_52 : decode cX10_reads 52 = .ok (.invokevirtual 127, 3) := by decide +kernel
theorem dX10_reads_55 : decode cX10_reads 55 = .ok (.aload_n 0, 1) := by decide +kernel
theorem dX10_reads_56 : decode cX10_reads 56 = .ok (.getfield 20, 3) := by decide +kernel
theorem dX10_reads_59 : decode cX10_reads 59 = .ok (.iconst 2, 1) := by decide +kernel
theorem dX10_reads_60 : decode cX10_reads 60 = .ok (.iload_n 1, 1) := by decide +kernel
theorem dX10_reads_61 : decode cX10_reads 61 = .ok (.imul, 1) := by decide +kernel
theorem dX10_reads_62 : decode cX10_reads 62 = .ok (.iaload, 1) := by decide +kernel
theorem dX10_reads_63 : decode cX10_reads 63 = .ok (.if_icmp .ne 33, 3) := by decide +kernel
theorem dX10_reads_66 : decode cX10_reads 66 = .ok (.lload 8, 2) := by decide +kernel
theorem dX10_reads_68 : decode cX10_reads 68 = .ok (.iload 4, 2) := by decide +kernel
theorem dX10_reads_70 : decode cX10_reads 70 = .ok (.i2l, 1) := by decide +kernel
theorem dX10_reads_71 : decode cX10_reads 71 = .ok (.iload 10, 2) := by decide +kernel
theorem dX10_reads_73 : decode cX10_reads 73 = .ok (.invokestatic 182, 3) := by decide +kernel
theorem dX10_reads_76 : decode cX10_reads 76 = .ok (.lmul, 1) := by decide +kernel
theorem dX10_reads_77 : decode cX10_reads 77 = .ok (.ldc2_w 186, 3) := by decide +kernel
theorem dX10_reads_80 : decode cX10_reads 80 = .ok (.iload 4, 2) := by decide +kernel
theorem dX10_reads_82 : decode cX10_reads 82 = .ok (.i2l, 1) := by decide +kernel
theorem dX10_reads_83 : decode cX10_reads 83 = .ok (.lsub, 1) := by decide +kernel
theorem dX10_reads_84 : decode cX10_reads 84 = .ok (.iload 5, 2) := by decide +kernel
theorem dX10_reads_86 : decode cX10_reads 86 = .ok (.iload 10, 2) := by decide +kernel
theorem dX10_reads_88 : decode cX10_reads 88 = .ok (.isub, 1) := by decide +kernel
theorem dX10_reads_89 : decode cX10_reads 89 = .ok (.invokestatic 182, 3) := by decide +kernel
theorem dX10_reads_92 : decode cX10_reads 92 = .ok (.lmul, 1) := by decide +kernel
theorem dX10_reads_93 : decode cX10_reads 93 = .ok (.goto 4, 3) := by decide +kernel
theorem dX10_reads_96 : decode cX10_reads 96 = .ok (.lconst 0, 1) := by decide +kernel
theorem dX10_reads_97 : decode cX10_reads 97 = .ok (.ladd, 1) := by decide +kernel
theorem dX10_reads_98 : decode cX10_reads 98 = .ok (.lstore 6, 2) := by decide +kernel
theorem dX10_reads_100 : decode cX10_reads 100 = .ok (.lload 8, 2) := by decide +kernel
theorem dX10_reads_102 : decode cX10_reads 102 = .ok (.iload 5, 2) := by decide +kernel
theorem dX10_reads_104 : decode cX10_reads 104 = .ok (.iload 10, 2) := by decide +kernel
theorem dX10_reads_106 : decode cX10_reads 106 = .ok (.isub, 1) := by decide +kernel
theorem dX10_reads_107 : decode cX10_reads 107 = .ok (.i2l, 1) := by decide +kernel
theorem dX10_reads_108 : decode cX10_reads 108 = .ok (.lmul, 1) := by decide +kernel
theorem dX10_reads_109 : decode cX10_reads 109 = .ok (.iload 10, 2) := by decide +kernel
theorem dX10_reads_111 : decode cX10_reads 111 = .ok (.iconst 1, 1) := by decide +kernel
theorem dX10_reads_112 : decode cX10_reads 112 = .ok (.iadd, 1) := by decide +kernel
theorem dX10_reads_113 : decode cX10_reads 113 = .ok (.i2l, 1) := by decide +kernel
theorem dX10_reads_114 : decode cX10_reads 114 = .ok (.ldiv, 1) := by decide +kernel
theorem dX10_reads_115 : decode cX10_reads 115 = .ok (.lstore 8, 2) := by decide +kernel
theorem dX10_reads_117 : decode cX10_reads 117 = .ok (.iinc 10 1, 3) := by decide +kernel
theorem dX10_reads_120 : decode cX10_reads 120 = .ok (.goto (-89), 3) := by decide +kernel
theorem dX10_reads_123 : decode cX10_reads 123 = .ok (.lload 6, 2) := by decide +kernel
theorem dX10_reads_125 : decode cX10_reads 125 = .ok (.lreturn, 1) := by decide +kernel
theorem dX10_tens_0 : decode cX10_tens 0 = .ok (.ldc2_w 186, 3) := by decide +kernel
theorem dX10_tens_3 : decode cX10_tens 3 = .ok (.aload_n 0, 1) := by decide +kernel
theorem dX10_tens_4 : decode cX10_tens 4 = .ok (.getfield 26, 3) := by decide +kernel
theorem dX10_tens_7 : decode cX10_tens 7 = .ok (.iconst 2, 1) := by decide +kernel
theorem dX10_tens_8 : decode cX10_tens 8 = .ok (.iload_n 1, 1) := by decide +kernel
theorem dX10_tens_9 : decode cX10_tens 9 = .ok (.imul, 1) := by decide +kernel
theorem dX10_tens_10 : decode cX10_tens 10 = .ok (.iconst 1, 1) := by decide +kernel
theorem dX10_tens_11 : decode cX10_tens 11 = .ok (.iadd, 1) := by decide +kernel
theorem dX10_tens_12 : decode cX10_tens 12 = .ok (.iaload, 1) := by decide +kernel
theorem dX10_tens_13 : decode cX10_tens 13 = .ok (.invokestatic 182, 3) := by decide +kernel
theorem dX10_tens_16 : decode cX10_tens 16 = .ok (.lreturn, 1) := by decide +kernel
theorem dX10_lowest_0 : decode cX10_lowest 0 = .ok (.lload_n 1, 1) := by decide +kernel
theorem dX10_lowest_1 : decode cX10_lowest 1 = .ok (.lstore 5, 2) := by decide +kernel
theorem dX10_lowest_3 : decode cX10_lowest 3 = .ok (.lload_n 3, 1) := by decide +kernel
theorem dX10_lowest_4 : decode cX10_lowest 4 = .ok (.lstore 7, 2) := by decide +kernel
theorem dX10_lowest_6 : decode cX10_lowest 6 = .ok (.lload 7, 2) := by decide +kernel
theorem dX10_lowest_8 : decode cX10_lowest 8 = .ok (.lconst 0, 1) := by decide +kernel
theorem dX10_lowest_9 : decode cX10_lowest 9 = .ok (.lcmp, 1) := by decide +kernel
theorem dX10_lowest_10 : decode cX10_lowest 10 = .ok (.ifCond .eq 21, 3) := by decide +kernel
theorem dX10_lowest_13 : decode cX10_lowest 13 = .ok (.lload 5, 2) := by decide +kernel
theorem dX10_lowest_15 : decode cX10_lowest 15 = .ok (.lload 7, 2) := by decide +kernel
theorem dX10_lowest_17 : decode cX10_lowest 17 = .ok (.lrem, 1) := by decide +kernel
theorem dX10_lowest_18 : decode cX10_lowest 18 = .ok (.lstore 9, 2) := by decide +kernel
theorem dX10_lowest_20 : decode cX10_lowest 20 = .ok (.lload 7, 2) := by decide +kernel
theorem dX10_lowest_22 : decode cX10_lowest 22 = .ok (.lstore 5, 2) := by decide +kernel
theorem dX10_lowest_24 : decode cX10_lowest 24 = .ok (.lload 9, 2) := by decide +kernel
theorem dX10_lowest_26 : decode cX10_lowest 26 = .ok (.lstore 7, 2) := by decide +kernel
theorem dX10_lowest_28 : decode cX10_lowest 28 = .ok (.goto (-22), 3) := by decide +kernel
theorem dX10_lowest_31 : decode cX10_lowest 31 = .ok (.aload_n 0, 1) := by decide +kernel
theorem dX10_lowest_32 : decode cX10_lowest 32 = .ok (.lload_n 1, 1) := by decide +kernel
theorem dX10_lowest_33 : decode cX10_lowest 33 = .ok (.lload 5, 2) := by decide +kernel
theorem dX10_lowest_35 : decode cX10_lowest 35 = .ok (.ldiv, 1) := by decide +kernel
theorem dX10_lowest_36 : decode cX10_lowest 36 = .ok (.putfield 188, 3) := by decide +kernel
theorem dX10_lowest_39 : decode cX10_lowest 39 = .ok (.aload_n 0, 1) := by decide +kernel
theorem dX10_lowest_40 : decode cX10_lowest 40 = .ok (.lload_n 3, 1) := by decide +kernel
theorem dX10_lowest_41 : decode cX10_lowest 41 = .ok (.lload 5, 2) := by decide +kernel
theorem dX10_lowest_43 : decode cX10_lowest 43 = .ok (.ldiv, 1) := by decide +kernel
theorem dX10_lowest_44 : decode cX10_lowest 44 = .ok (.putfield 192, 3) := by decide +kernel
theorem dX10_lowest_47 : decode cX10_lowest 47 = .ok (.return_, 1) := by decide +kernel
theorem dX10_isAge_0 : decode cX10_isAge 0 = .ok (.iload_n 0, 1) := by decide +kernel
theorem dX10_isAge_1 : decode cX10_isAge 1 = .ok (.i2l, 1) := by decide +kernel
theorem dX10_isAge_2 : decode cX10_isAge 2 = .ok (.lconst 0, 1) := by decide +kernel
theorem dX10_isAge_3 : decode cX10_isAge 3 = .ok (.ldc2_w 157, 3) := by decide +kernel
theorem dX10_isAge_6 : decode cX10_isAge 6 = .ok (.invokestatic 65, 3) := by decide +kernel
theorem dX10_isAge_9 : decode cX10_isAge 9 = .ok (.ireturn, 1) := by decide +kernel
theorem dX10_sent_0 : decode cX10_sent 0 = .ok (.aload_n 0, 1) := by decide +kernel
theorem dX10_sent_1 : decode cX10_sent 1 = .ok (.iload_n 1, 1) := by decide +kernel
theorem dX10_sent_2 : decode cX10_sent 2 = .ok (.invokevirtual 111, 3) := by decide +kernel
theorem dX10_sent_5 : decode cX10_sent 5 = .ok (.ifCond .eq 29, 3) := by decide +kernel
theorem dX10_sent_8 : decode cX10_sent 8 = .ok (.aload_n 0, 1) := by decide +kernel
theorem dX10_sent_9 : decode cX10_sent 9 = .ok (.iload_n 2, 1) := by decide +kernel
theorem dX10_sent_10 : decode cX10_sent 10 = .ok (.invokevirtual 195, 3) := by decide +kernel
theorem dX10_sent_13 : decode cX10_sent 13 = .ok (.ifCond .eq 21, 3) := by decide +kernel
theorem dX10_sent_16 : decode cX10_sent 16 = .ok (.iload_n 3, 1) := by decide +kernel
theorem dX10_sent_17 : decode cX10_sent 17 = .ok (.invokestatic 198, 3) := by decide +kernel
theorem dX10_sent_20 : decode cX10_sent 20 = .ok (.ifCond .eq 14, 3) := by decide +kernel
theorem dX10_sent_23 : decode cX10_sent 23 = .ok (.iload 4, 2) := by decide +kernel
theorem dX10_sent_25 : decode cX10_sent 25 = .ok (.i2l, 1) := by decide +kernel
theorem dX10_sent_26 : decode cX10_sent 26 = .ok (.lconst 0, 1) := by decide +kernel
theorem dX10_sent_27 : decode cX10_sent 27 = .ok (.lconst 1, 1) := by decide +kernel
theorem dX10_sent_28 : decode cX10_sent 28 = .ok (.invokestatic 65, 3) := by decide +kernel
theorem dX10_sent_31 : decode cX10_sent 31 = .ok (.ifCond .ne 5, 3) := by decide +kernel
theorem dX10_sent_34 : decode cX10_sent 34 = .ok (.iconst (-1), 1) := by decide +kernel
theorem dX10_sent_35 : decode cX10_sent 35 = .ok (.ireturn, 1) := by decide +kernel
theorem dX10_sent_36 : decode cX10_sent 36 = .ok (.aload_n 0, 1) := by decide +kernel
theorem dX10_sent_37 : decode cX10_sent 37 = .ok (.aload_n 0, 1) := by decide +kernel
theorem dX10_sent_38 : decode cX10_sent 38 = .ok (.iload_n 1, 1) := by decide +kernel
theorem dX10_sent_39 : decode cX10_sent 39 = .ok (.iload_n 2, 1) := by decide +kernel
theorem dX10_sent_40 : decode cX10_sent 40 = .ok (.iload_n 3, 1) := by decide +kernel
theorem dX10_sent_41 : decode cX10_sent 41 = .ok (.invokevirtual 201, 3) := by decide +kernel
theorem dX10_sent_44 : decode cX10_sent 44 = .ok (.aload_n 0, 1) := by decide +kernel
theorem dX10_sent_45 : decode cX10_sent 45 = .ok (.iload_n 2, 1) := by decide +kernel
theorem dX10_sent_46 : decode cX10_sent 46 = .ok (.invokevirtual 205, 3) := by decide +kernel
theorem dX10_sent_49 : decode cX10_sent 49 = .ok (.invokevirtual 209, 3) := by decide +kernel
theorem dX10_sent_52 : decode cX10_sent 52 = .ok (.iload 4, 2) := by decide +kernel
theorem dX10_sent_54 : decode cX10_sent 54 = .ok (.ifCond .ne 10, 3) := by decide +kernel
theorem dX10_sent_57 : decode cX10_sent 57 = .ok (.aload_n 0, 1) := by decide +kernel
theorem dX10_sent_58 : decode cX10_sent 58 = .ok (.getfield 188, 3) := by decide +kernel
theorem dX10_sent_61 : decode cX10_sent 61 = .ok (.goto 7, 3) := by decide +kernel
theorem dX10_sent_64 : decode cX10_sent 64 = .ok (.aload_n 0, 1) := by decide +kernel
theorem dX10_sent_65 : decode cX10_sent 65 = .ok (.getfield 192, 3) := by decide +kernel
theorem dX10_sent_68 : decode cX10_sent 68 = .ok (.l2i, 1) := by decide +kernel
theorem dX10_sent_69 : decode cX10_sent 69 = .ok (.ireturn, 1) := by decide +kernel
theorem dX10_whom_0 : decode cX10_whom 0 = .ok (.aload_n 0, 1) := by decide +kernel
theorem dX10_whom_1 : decode cX10_whom 1 = .ok (.iload_n 1, 1) := by decide +kernel
theorem dX10_whom_2 : decode cX10_whom 2 = .ok (.invokevirtual 111, 3) := by decide +kernel
theorem dX10_whom_5 : decode cX10_whom 5 = .ok (.ifCond .eq 10, 3) := by decide +kernel
theorem dX10_whom_8 : decode cX10_whom 8 = .ok (.iload_n 2, 1) := by decide +kernel
theorem dX10_whom_9 : decode cX10_whom 9 = .ok (.invokestatic 198, 3) := by decide +kernel
theorem dX10_whom_12 : decode cX10_whom 12 = .ok (.ifCond .ne 5, 3) := by decide +kernel
theorem dX10_whom_15 : decode cX10_whom 15 = .ok (.iconst (-1), 1) := by decide +kernel
theorem dX10_whom_16 : decode cX10_whom 16 = .ok (.ireturn, 1) := by decide +kernel
theorem dX10_whom_17 : decode cX10_whom 17 = .ok (.bipush (-4), 2) := by decide +kernel
theorem dX10_whom_19 : decode cX10_whom 19 = .ok (.istore_n 3, 1) := by decide +kernel
theorem dX10_whom_20 : decode cX10_whom 20 = .ok (.ldc2_w 173, 3) := by decide +kernel
theorem dX10_whom_23 : decode cX10_whom 23 = .ok (.lstore 4, 2) := by decide +kernel
theorem dX10_whom_25 : decode cX10_whom 25 = .ok (.iconst 0, 1) := by decide +kernel
theorem dX10_whom_26 : decode cX10_whom 26 = .ok (.istore 6, 2) := by decide +kernel
theorem dX10_whom_28 : decode cX10_whom 28 = .ok (.iload 6, 2) := by decide +kernel
theorem dX10_whom_30 : decode cX10_whom 30 = .ok (.aload_n 0, 1) := by decide +kernel
theorem dX10_whom_31 : decode cX10_whom 31 = .ok (.getfield 23, 3) := by decide +kernel
theorem dX10_whom_34 : decode cX10_whom 34 = .ok (.iconst 0, 1) := by decide +kernel
theorem dX10_whom_35 : decode cX10_whom 35 = .ok (.iaload, 1) := by decide +kernel
theorem dX10_whom_36 : decode cX10_whom 36 = .ok (.if_icmp .ge 72, 3) := by decide +kernel
theorem dX10_whom_39 : decode cX10_whom 39 = .ok (.aload_n 0, 1) := by decide +kernel
theorem dX10_whom_40 : decode cX10_whom 40 = .ok (.iload_n 1, 1) := by decide +kernel
theorem dX10_whom_41 : decode cX10_whom 41 = .ok (.iload 6, 2) := by decide +kernel
theorem dX10_whom_43 : decode cX10_whom 43 = .ok (.iload_n 2, 1) := by decide +kernel
theorem dX10_whom_44 : decode cX10_whom 44 = .ok (.invokevirtual 201, 3) := by decide +kernel
theorem dX10_whom_47 : decode cX10_whom 47 = .ok (.ldc2_w 186, 3) := by decide +kernel
theorem dX10_whom_50 : decode cX10_whom 50 = .ok (.bipush 6, 2) := by decide +kernel
theorem dX10_whom_52 : decode cX10_whom 52 = .ok (.aload_n 0, 1) := by decide +kernel
theorem dX10_whom_53 : decode cX10_whom 53 = .ok (.getfield 26, 3) := by decide +kernel
theorem dX10_whom_56 : decode cX10_whom 56 = .ok (.iconst 2, 1) := by decide +kernel
theorem dX10_whom_57 : decode cX10_whom 57 = .ok (.iload 6, 2) := by decide +kernel
theorem dX10_whom_59 : decode cX10_whom 59 = .ok (.imul, 1) := by decide +kernel
theorem dX10_whom_60 : decode cX10_whom 60 = .ok (.iconst 1, 1) := by decide +kernel
theorem dX10_whom_61 : decode cX10_whom 61 = .ok (.iadd, 1) := by decide +kernel
theorem dX10_whom_62 : decode cX10_whom 62 = .ok (.iaload, 1) := by decide +kernel
theorem dX10_whom_63 : decode cX10_whom 63 = .ok (.isub, 1) := by decide +kernel
theorem dX10_whom_64 : decode cX10_whom 64 = .ok (.invokestatic 182, 3) := by decide +kernel
theorem dX10_whom_67 : decode cX10_whom 67 = .ok (.lmul, 1) := by decide +kernel
theorem dX10_whom_68 : decode cX10_whom 68 = .ok (.lstore 7, 2) := by decide +kernel
theorem dX10_whom_70 : decode cX10_whom 70 = .ok (.lload 7, 2) := by decide +kernel
theorem dX10_whom_72 : decode cX10_whom 72 = .ok (.lload 4, 2) := by decide +kernel
theorem dX10_whom_74 : decode cX10_whom 74 = .ok (.lcmp, 1) := by decide +kernel
theorem dX10_whom_75 : decode cX10_whom 75 = .ok (.ifCond .le 8, 3) := by decide +kernel
theorem dX10_whom_78 : decode cX10_whom 78 = .ok (.iload 6, 2) := by decide +kernel
theorem dX10_whom_80 : decode cX10_whom 80 = .ok (.goto 4, 3) := by decide +kernel
theorem dX10_whom_83 : decode cX10_whom 83 = .ok (.iload_n 3, 1) := by decide +kernel
theorem dX10_whom_84 : decode cX10_whom 84 = .ok (.istore_n 3, 1) := by decide +kernel
theorem dX10_whom_85 : decode cX10_whom 85 = .ok (.lload 7, 2) := by decide +kernel
theorem dX10_whom_87 : decode cX10_whom 87 = .ok (.lload 4, 2) := by decide +kernel
theorem dX10_whom_89 : decode cX10_whom 89 = .ok (.lcmp, 1) := by decide +kernel
theorem dX10_whom_90 : decode cX10_whom 90 = .ok (.ifCond .le 8, 3) := by decide +kernel
theorem dX10_whom_93 : decode cX10_whom 93 = .ok (.lload 7, 2) := by decide +kernel
theorem dX10_whom_95 : decode cX10_whom 95 = .ok (.goto 5, 3) := by decide +kernel
theorem dX10_whom_98 : decode cX10_whom 98 = .ok (.lload 4, 2) := by decide +kernel
theorem dX10_whom_100 : decode cX10_whom 100 = .ok (.lstore 4, 2) := by decide +kernel
theorem dX10_whom_102 : decode cX10_whom 102 = .ok (.iinc 6 1, 3) := by decide +kernel
theorem dX10_whom_105 : decode cX10_whom 105 = .ok (.goto (-77), 3) := by decide +kernel
theorem dX10_whom_108 : decode cX10_whom 108 = .ok (.iload_n 3, 1) := by decide +kernel
theorem dX10_whom_109 : decode cX10_whom 109 = .ok (.ireturn, 1) := by decide +kernel
theorem dX10_two_0 : decode cX10_two 0 = .ok (.aload_n 0, 1) := by decide +kernel
theorem dX10_two_1 : decode cX10_two 1 = .ok (.iload_n 1, 1) := by decide +kernel
theorem dX10_two_2 : decode cX10_two 2 = .ok (.invokevirtual 111, 3) := by decide +kernel
theorem dX10_two_5 : decode cX10_two 5 = .ok (.ifCond .eq 43, 3) := by decide +kernel
theorem dX10_two_8 : decode cX10_two 8 = .ok (.aload_n 0, 1) := by decide +kernel
theorem dX10_two_9 : decode cX10_two 9 = .ok (.iload_n 2, 1) := by decide +kernel
theorem dX10_two_10 : decode cX10_two 10 = .ok (.invokevirtual 195, 3) := by decide +kernel
theorem dX10_two_13 : decode cX10_two 13 = .ok (.ifCond .eq 35, 3) := by decide +kernel
theorem dX10_two_16 : decode cX10_two 16 = .ok (.aload_n 0, 1) := by decide +kernel
theorem dX10_two_17 : decode cX10_two 17 = .ok (.iload_n 3, 1) := by decide +kernel
theorem dX10_two_18 : decode cX10_two 18 = .ok (.invokevirtual 195, 3) := by decide +kernel
theorem dX10_two_21 : decode cX10_two 21 = .ok (.ifCond .eq 27, 3) := by decide +kernel
theorem dX10_two_24 : decode cX10_two 24 = .ok (.iload_n 2, 1) := by decide +kernel
theorem dX10_two_25 : decode cX10_two 25 = .ok (.iload_n 3, 1) := by decide +kernel
theorem dX10_two_26 : decode cX10_two 26 = .ok (.if_icmp .eq 22, 3) := by decide +kernel
theorem dX10_two_29 : decode cX10_two 29 = .ok (.iload 4, 2) := by decide +kernel
theorem dX10_two_31 : decode cX10_two 31 = .ok (.invokestatic 198, 3) := by decide +kernel
theorem dX10_two_34 : decode cX10_two 34 = .ok (.ifCond .eq 14, 3) := by decide +kernel
theorem dX10_two_37 : decode cX10_two 37 = .ok (.iload 5, 2) := by decide +kernel
theorem dX10_two_39 : decode cX10_two 39 = .ok (.i2l, 1) := by decide +kernel
theorem dX10_two_40 : decode cX10_two 40 = .ok (.lconst 0, 1) := by decide +kernel
theorem dX10_two_41 : decode cX10_two 41 = .ok (.lconst 1, 1) := by decide +kernel
theorem dX10_two_42 : decode cX10_two 42 = .ok (.invokestatic 65, 3) := by decide +kernel
theorem dX10_two_45 : decode cX10_two 45 = .ok (.ifCond .ne 7, 3) := by decide +kernel
theorem dX10_two_48 : decode cX10_two 48 = .ok (.ldc2_w 173, 3) := by decide +kernel
theorem dX10_two_51 : decode cX10_two 51 = .ok (.lreturn, 1) := by decide +kernel
theorem dX10_two_52 : decode cX10_two 52 = .ok (.aload_n 0, 1) := by decide +kernel
theorem dX10_two_53 : decode cX10_two 53 = .ok (.iload_n 2, 1) := by decide +kernel
theorem dX10_two_54 : decode cX10_two 54 = .ok (.invokevirtual 205, 3) := by decide +kernel
theorem dX10_two_57 : decode cX10_two 57 = .ok (.aload_n 0, 1) := by decide +kernel
theorem dX10_two_58 : decode cX10_two 58 = .ok (.iload_n 3, 1) := by decide +kernel
theorem dX10_two_59 : decode cX10_two 59 = .ok (.invokevirtual 205, 3) := by decide +kernel
theorem dX10_two_62 : decode cX10_two 62 = .ok (.lmul, 1) := by decide +kernel
theorem dX10_two_63 : decode cX10_two 63 = .ok (.lstore 6, 2) := by decide +kernel
theorem dX10_two_65 : decode cX10_two 65 = .ok (.aload_n 0, 1) := by decide +kernel
theorem dX10_two_66 : decode cX10_two 66 = .ok (.lload 6, 2) := by decide +kernel
theorem dX10_two_68 : decode cX10_two 68 = .ok (.aload_n 0, 1) := by decide +kernel
theorem dX10_two_69 : decode cX10_two 69 = .ok (.iload_n 2, 1) := by decide +kernel
theorem dX10_two_70 : decode cX10_two 70 = .ok (.invokevirtual 205, 3) := by decide +kernel
theorem dX10_two_73 : decode cX10_two 73 = .ok (.aload_n 0, 1) := by decide +kernel
theorem dX10_two_74 : decode cX10_two 74 = .ok (.iload_n 1, 1) := by decide +kernel
theorem dX10_two_75 : decode cX10_two 75 = .ok (.iload_n 2, 1) := by decide +kernel
theorem dX10_two_76 : decode cX10_two 76 = .ok (.iload 4, 2) := by decide +kernel
theorem dX10_two_78 : decode cX10_two 78 = .ok (.invokevirtual 201, 3) := by decide +kernel
theorem dX10_two_81 : decode cX10_two 81 = .ok (.lsub, 1) := by decide +kernel
theorem dX10_two_82 : decode cX10_two 82 = .ok (.aload_n 0, 1) := by decide +kernel
theorem dX10_two_83 : decode cX10_two 83 = .ok (.iload_n 3, 1) := by decide +kernel
theorem dX10_two_84 : decode cX10_two 84 = .ok (.invokevirtual 205, 3) := by decide +kernel
theorem dX10_two_87 : decode cX10_two 87 = .ok (.aload_n 0, 1) := by decide +kernel
theorem dX10_two_88 : decode cX10_two 88 = .ok (.iload_n 1, 1) := by decide +kernel
theorem dX10_two_89 : decode cX10_two 89 = .ok (.iload_n 3, 1) := by decide +kernel
theorem dX10_two_90 : decode cX10_two 90 = .ok (.iload 4, 2) := by decide +kernel
theorem dX10_two_92 : decode cX10_two 92 = .ok (.invokevirtual 201, 3) := by decide +kernel
theorem dX10_two_95 : decode cX10_two 95 = .ok (.lsub, 1) := by decide +kernel
theorem dX10_two_96 : decode cX10_two 96 = .ok (.lmul, 1) := by decide +kernel
theorem dX10_two_97 : decode cX10_two 97 = .ok (.lsub, 1) := by decide +kernel
theorem dX10_two_98 : decode cX10_two 98 = .ok (.lload 6, 2) := by decide +kernel
theorem dX10_two_100 : decode cX10_two 100 = .ok (.invokevirtual 209, 3) := by decide +kernel
theorem dX10_two_103 : decode cX10_two 103 = .ok (.iload 5, 2) := by decide +kernel
theorem dX10_two_105 : decode cX10_two 105 = .ok (.ifCond .ne 10, 3) := by decide +kernel
theorem dX10_two_108 : decode cX10_two 108 = .ok (.aload_n 0, 1) := by decide +kernel
theorem dX10_two_109 : decode cX10_two 109 = .ok (.getfield 188, 3) := by decide +kernel
theorem dX10_two_112 : decode cX10_two 112 = .ok (.goto 7, 3) := by decide +kernel
theorem dX10_two_115 : decode cX10_two 115 = .ok (.aload_n 0, 1) := by decide +kernel
theorem dX10_two_116 : decode cX10_two 116 = .ok (.getfield 192, 3) := by decide +kernel
theorem dX10_two_119 : decode cX10_two 119 = .ok (.lreturn, 1) := by decide +kernel
theorem dX10_said_0 : decode cX10_said 0 = .ok (.iload_n 1, 1) := by decide +kernel
theorem dX10_said_1 : decode cX10_said 1 = .ok (.i2l, 1) := by decide +kernel
theorem dX10_said_2 : decode cX10_said 2 = .ok (.lconst 0, 1) := by decide +kernel
theorem dX10_said_3 : decode cX10_said 3 = .ok (.ldc2_w 213, 3) := by decide +kernel
theorem dX10_said_6 : decode cX10_said 6 = .ok (.invokestatic 65, 3) := by decide +kernel
theorem dX10_said_9 : decode cX10_said 9 = .ok (.ifCond .eq 13, 3) := by decide +kernel
theorem dX10_said_12 : decode cX10_said 12 = .ok (.iload_n 2, 1) := by decide +kernel
theorem dX10_said_13 : decode cX10_said 13 = .ok (.i2l, 1) := by decide +kernel
theorem dX10_said_14 : decode cX10_said 14 = .ok (.lconst 0, 1) := by decide +kernel
theorem dX10_said_15 : decode cX10_said 15 = .ok (.lconst 1, 1) := by decide +kernel
theorem dX10_said_16 : decode cX10_said 16 = .ok (.invokestatic 65, 3) := by decide +kernel
theorem dX10_said_19 : decode cX10_said 19 = .ok (.ifCond .ne 5, 3) := by decide +kernel
theorem dX10_said_22 : decode cX10_said 22 = .ok (.iconst (-1), 1) := by decide +kernel
theorem dX10_said_23 : decode cX10_said 23 = .ok (.ireturn, 1) := by decide +kernel
theorem dX10_said_24 : decode cX10_said 24 = .ok (.iconst 0, 1) := by decide +kernel
theorem dX10_said_25 : decode cX10_said 25 = .ok (.istore_n 3, 1) := by decide +kernel
theorem dX10_said_26 : decode cX10_said 26 = .ok (.iconst (-1), 1) := by decide +kernel
theorem dX10_said_27 : decode cX10_said 27 = .ok (.istore 4, 2) := by decide +kernel
theorem dX10_said_29 : decode cX10_said 29 = .ok (.iconst 0, 1) := by decide +kernel
theorem dX10_said_30 : decode cX10_said 30 = .ok (.istore 5, 2) := by decide +kernel
theorem dX10_said_32 : decode cX10_said 32 = .ok (.iload 5, 2) := by decide +kernel
theorem dX10_said_34 : decode cX10_said 34 = .ok (.iconst 1, 1) := by decide +kernel
theorem dX10_said_35 : decode cX10_said 35 = .ok (.aload_n 0, 1) := by decide +kernel
theorem dX10_said_36 : decode cX10_said 36 = .ok (.getfield 17, 3) := by decide +kernel
theorem dX10_said_39 : decode cX10_said 39 = .ok (.iconst 0, 1) := by decide +kernel
theorem dX10_said_40 : decode cX10_said 40 = .ok (.iaload, 1) := by decide +kernel
theorem dX10_said_41 : decode cX10_said 41 = .ok (.ishl, 1) := by decide +kernel
theorem dX10_said_42 : decode cX10_said 42 = .ok (.if_icmp .ge 104, 3) := by decide +kernel
theorem dX10_said_45 : decode cX10_said 45 = .ok (.iconst 0, 1) := by decide +kernel
theorem dX10_said_46 : decode cX10_said 46 = .ok (.istore 6, 2) := by decide +kernel
theorem dX10_said_48 : decode cX10_said 48 = .ok (.iconst 0, 1) := by decide +kernel
theorem dX10_said_49 : decode cX10_said 49 = .ok (.istore 7, 2) := by decide +kernel
theorem dX10_said_51 : decode cX10_said 51 = .ok (.iconst 0, 1) := by decide +kernel
theorem dX10_said_52 : decode cX10_said 52 = .ok (.istore 8, 2) := by decide +kernel
theorem dX10_said_54 : decode cX10_said 54 = .ok (.iload 8, 2) := by decide +kernel
theorem dX10_said_56 : decode cX10_said 56 = .ok (.aload_n 0, 1) := by decide +kernel
theorem dX10_said_57 : decode cX10_said 57 = .ok (.getfield 17, 3) := by decide +kernel
theorem dX10_said_60 : decode cX10_said 60 = .ok (.iconst 0, 1) := by decide +kernel
theorem dX10_said_61 : decode cX10_said 61 = .ok (.iaload, 1) := by decide +kernel
theorem dX10_said_62 : decode cX10_said 62 = .ok (.if_icmp .ge 58, 3) := by decide +kernel
theorem dX10_said_65 : decode cX10_said 65 = .ok (.iload 6, 2) := by decide +kernel
theorem dX10_said_67 : decode cX10_said 67 = .ok (.iload 5, 2) := by decide +kernel
theorem dX10_said_69 : decode cX10_said 69 = .ok (.iload 8, 2) := by decide +kernel
theorem dX10_said_71 : decode cX10_said 71 = .ok (.ishr, 1) := by decide +kernel
theorem dX10_said_72 : decode cX10_said 72 = .ok (.iconst 1, 1) := by decide +kernel
theorem dX10_said_73 : decode cX10_said 73 = .ok (.iand, 1) := by decide +kernel
theorem dX10_said_74 : decode cX10_said 74 = .ok (.aload_n 0, 1) := by decide +kernel
theorem dX10_said_75 : decode cX10_said 75 = .ok (.getfield 20, 3) := by decide +kernel
theorem dX10_said_78 : decode cX10_said 78 = .ok (.iconst 2, 1) := by decide +kernel
theorem dX10_said_79 : decode cX10_said 79 = .ok (.iload 8, 2) := by decide +kernel
theorem dX10_said_81 : decode cX10_said 81 = .ok (.imul, 1) := by decide +kernel
theorem dX10_said_82 : decode cX10_said 82 = .ok (.iaload, 1) := by decide +kernel
theorem dX10_said_83 : decode cX10_said 83 = .ok (.invokestatic 114, 3) := by decide +kernel
theorem dX10_said_86 : decode cX10_said 86 = .ok (.imul, 1) := by decide +kernel
theorem dX10_said_87 : decode cX10_said 87 = .ok (.iadd, 1) := by decide +kernel
theorem dX10_said_88 : decode cX10_said 88 = .ok (.istore 6, 2) := by decide +kernel
theorem dX10_said_90 : decode cX10_said 90 = .ok (.iload 7, 2) := by decide +kernel
theorem dX10_said_92 : decode cX10_said 92 = .ok (.iload 5, 2) := by decide +kernel
theorem dX10_said_94 : decode cX10_said 94 = .ok (.iload 8, 2) := by decide +kernel
theorem dX10_said_96 : decode cX10_said 96 = .ok (.ishr, 1) := by decide +kernel
theorem dX10_said_97 : decode cX10_said 97 = .ok (.iconst 1, 1) := by decide +kernel
theorem dX10_said_98 : decode cX10_said 98 = .ok (.iand, 1) := by decide +kernel
theorem dX10_said_99 : decode cX10_said 99 = .ok (.aload_n 0, 1) := by decide +kernel
theorem dX10_said_100 : decode cX10_said 100 = .ok (.getfield 20, 3) := by decide +kernel
theorem dX10_said_103 : decode cX10_said 103 = .ok (.iconst 2, 1) := by decide +kernel
theorem dX10_said_104 : decode cX10_said 104 = .ok (.iload 8, 2) := by decide +kernel
theorem dX10_said_106 : decode cX10_said 106 = .ok (.imul, 1) := by decide +kernel
theorem dX10_said_107 : decode cX10_said 107 = .ok (.iconst 1, 1) := by decide +kernel
theorem dX10_said_108 : decode cX10_said 108 = .ok (.iadd, 1) := by decide +kernel
theorem dX10_said_109 : decode cX10_said 109 = .ok (.iaload, 1) := by decide +kernel
theorem dX10_said_110 : decode cX10_said 110 = .ok (.imul, 1) := by decide +kernel
theorem dX10_said_111 : decode cX10_said 111 = .ok (.iadd, 1) := by decide +kernel
theorem dX10_said_112 : decode cX10_said 112 = .ok (.istore 7, 2) := by decide +kernel
theorem dX10_said_114 : decode cX10_said 114 = .ok (.iinc 8 1, 3) := by decide +kernel
theorem dX10_said_117 : decode cX10_said 117 = .ok (.goto (-63), 3) := by decide +kernel
theorem dX10_said_120 : decode cX10_said 120 = .ok (.iload 6, 2) := by decide +kernel
theorem dX10_said_122 : decode cX10_said 122 = .ok (.iload_n 1, 1) := by decide +kernel
theorem dX10_said_123 : decode cX10_said 123 = .ok (.if_icmp .gt 17, 3) := by decide +kernel
theorem dX10_said_126 : decode cX10_said 126 = .ok (.iload 7, 2) := by decide +kernel
theorem dX10_said_128 : decode cX10_said 128 = .ok (.iload 4, 2) := by decide +kernel
theorem dX10_said_130 : decode cX10_said 130 = .ok (.if_icmp .le 10, 3) := by decide +kernel
theorem dX10_said_133 : decode cX10_said 133 = .ok (.iload 5, 2) := by decide +kernel
theorem dX10_said_135 : decode cX10_said 135 = .ok (.istore_n 3, 1) := by decide +kernel
theorem dX10_said_136 : decode cX10_said 136 = .ok (.iload 7, 2) := by decide +kernel
theorem dX10_said_138 : decode cX10_said 138 = .ok (.istore 4, 2) := by decide +kernel
theorem dX10_said_140 : decode cX10_said 140 = .ok (.iinc 5 1, 3) := by decide +kernel
theorem dX10_said_143 : decode cX10_said 143 = .ok (.goto (-111), 3) := by decide +kernel
theorem dX10_said_146 : decode cX10_said 146 = .ok (.iload_n 2, 1) := by decide +kernel
theorem dX10_said_147 : decode cX10_said 147 = .ok (.ifCond .ne 7, 3) := by decide +kernel
theorem dX10_said_150 : decode cX10_said 150 = .ok (.iload_n 3, 1) := by decide +kernel
theorem dX10_said_151 : decode cX10_said 151 = .ok (.goto 5, 3) := by decide +kernel
theorem dX10_said_154 : decode cX10_said 154 = .ok (.iload 4, 2) := by decide +kernel
theorem dX10_said_156 : decode cX10_said 156 = .ok (.ireturn, 1) := by decide +kernel
theorem dX10_told_0 : decode cX10_told 0 = .ok (.iload_n 1, 1) := by decide +kernel
theorem dX10_told_1 : decode cX10_told 1 = .ok (.i2l, 1) := by decide +kernel
theorem dX10_told_2 : decode cX10_told 2 = .ok (.lconst 0, 1) := by decide +kernel
theorem dX10_told_3 : decode cX10_told 3 = .ok (.ldc2_w 215, 3) := by decide +kernel
theorem dX10_told_6 : decode cX10_told 6 = .ok (.invokestatic 65, 3) := by decide +kernel
theorem dX10_told_9 : decode cX10_told 9 = .ok (.ifCond .eq 13, 3) := by decide +kernel
theorem dX10_told_12 : decode cX10_told 12 = .ok (.iload_n 2, 1) := by decide +kernel
theorem dX10_told_13 : decode cX10_told 13 = .ok (.i2l, 1) := by decide +kernel
theorem dX10_told_14 : decode cX10_told 14 = .ok (.lconst 0, 1) := by decide +kernel
theorem dX10_told_15 : decode cX10_told 15 = .ok (.lconst 1, 1) := by decide +kernel
theorem dX10_told_16 : decode cX10_told 16 = .ok (.invokestatic 65, 3) := by decide +kernel
theorem dX10_told_19 : decode cX10_told 19 = .ok (.ifCond .ne 5, 3) := by decide +kernel
theorem dX10_told_22 : decode cX10_told 22 = .ok (.iconst (-1), 1) := by decide +kernel
theorem dX10_told_23 : decode cX10_told 23 = .ok (.ireturn, 1) := by decide +kernel
theorem dX10_told_24 : decode cX10_told 24 = .ok (.iconst 0, 1) := by decide +kernel
theorem dX10_told_25 : decode cX10_told 25 = .ok (.istore_n 3, 1) := by decide +kernel
theorem dX10_told_26 : decode cX10_told 26 = .ok (.bipush (-4), 2) := by decide +kernel
theorem dX10_told_28 : decode cX10_told 28 = .ok (.istore 4, 2) := by decide +kernel
theorem dX10_told_30 : decode cX10_told 30 = .ok (.iconst 0, 1) := by decide +kernel
theorem dX10_told_31 : decode cX10_told 31 = .ok (.istore 5, 2) := by decide +kernel
theorem dX10_told_33 : decode cX10_told 33 = .ok (.iconst 0, 1) := by decide +kernel
theorem dX10_told_34 : decode cX10_told 34 = .ok (.istore 6, 2) := by decide +kernel
theorem dX10_told_36 : decode cX10_told 36 = .ok (.iload 6, 2) := by decide +kernel
theorem dX10_told_38 : decode cX10_told 38 = .ok (.aload_n 0, 1) := by decide +kernel
theorem dX10_told_39 : decode cX10_told 39 = .ok (.getfield 29, 3) := by decide +kernel
theorem dX10_told_42 : decode cX10_told 42 = .ok (.iconst 0, 1) := by decide +kernel
theorem dX10_told_43 : decode cX10_told 43 = .ok (.iaload, 1) := by decide +kernel
theorem dX10_told_44 : decode cX10_told 44 = .ok (.if_icmp .ge 36, 3) := by decide +kernel
theorem dX10_told_47 : decode cX10_told 47 = .ok (.aload_n 0, 1) := by decide +kernel
theorem dX10_told_48 : decode cX10_told 48 = .ok (.getfield 32, 3) := by decide +kernel
theorem dX10_told_51 : decode cX10_told 51 = .ok (.iload 6, 2) := by decide +kernel
theorem dX10_told_53 : decode cX10_told 53 = .ok (.iaload, 1) := by decide +kernel
theorem dX10_told_54 : decode cX10_told 54 = .ok (.iload_n 1, 1) := by decide +kernel
theorem dX10_told_55 : decode cX10_told 55 = .ok (.iand, 1) := by decide +kernel
theorem dX10_told_56 : decode cX10_told 56 = .ok (.iload_n 1, 1) := by decide +kernel
theorem dX10_told_57 : decode cX10_told 57 = .ok (.if_icmp .ne 17, 3) := by decide +kernel
theorem dX10_told_60 : decode cX10_told 60 = .ok (.iload_n 3, 1) := by decide +kernel
theorem dX10_told_61 : decode cX10_told 61 = .ok (.iconst 1, 1) := by decide +kernel
theorem dX10_told_62 : decode cX10_told 62 = .ok (.iload 6, 2) := by decide +kernel
theorem dX10_told_64 : decode cX10_told 64 = .ok (.ishl, 1) := by decide +kernel
theorem dX10_told_65 : decode cX10_told 65 = .ok (.ior, 1) := by decide +kernel
theorem dX10_told_66 : decode cX10_told 66 = .ok (.istore_n 3, 1) := by decide +kernel
theorem dX10_told_67 : decode cX10_told 67 = .ok (.iload 6, 2) := by decide +kernel
theorem dX10_told_69 : decode cX10_told 69 = .ok (.istore 4, 2) := by decide +kernel
theorem dX10_told_71 : decode cX10_told 71 = .ok (.iinc 5 1, 3) := by decide +kernel
theorem dX10_told_74 : decode cX10_told 74 = .ok (.iinc 6 1, 3) := by decide +kernel
theorem dX10_told_77 : decode cX10_told 77 = .ok (.goto (-41), 3) := by decide +kernel
theorem dX10_told_80 : decode cX10_told 80 = .ok (.iload_n 2, 1) := by decide +kernel
theorem dX10_told_81 : decode cX10_told 81 = .ok (.ifCond .ne 7, 3) := by decide +kernel
theorem dX10_told_84 : decode cX10_told 84 = .ok (.iload_n 3, 1) := by decide +kernel
theorem dX10_told_85 : decode cX10_told 85 = .ok (.goto 16, 3) := by decide +kernel
theorem dX10_told_88 : decode cX10_told 88 = .ok (.iload 5, 2) := by decide +kernel
theorem dX10_told_90 : decode cX10_told 90 = .ok (.iconst 1, 1) := by decide +kernel
theorem dX10_told_91 : decode cX10_told 91 = .ok (.if_icmp .ne 8, 3) := by decide +kernel
theorem dX10_told_94 : decode cX10_told 94 = .ok (.iload 4, 2) := by decide +kernel
theorem dX10_told_96 : decode cX10_told 96 = .ok (.goto 5, 3) := by decide +kernel
theorem dX10_told_99 : decode cX10_told 99 = .ok (.bipush (-4), 2) := by decide +kernel
theorem dX10_told_101 : decode cX10_told 101 = .ok (.ireturn, 1) := by decide +kernel
theorem dX10_month_0 : decode cX10_month 0 = .ok (.iload_n 1, 1) := by decide +kernel
theorem dX10_month_1 : decode cX10_month 1 = .ok (.i2l, 1) := by decide +kernel
theorem dX10_month_2 : decode cX10_month 2 = .ok (.lconst 0, 1) := by decide +kernel
theorem dX10_month_3 : decode cX10_month 3 = .ok (.ldc2_w 217, 3) := by decide +kernel
theorem dX10_month_6 : decode cX10_month 6 = .ok (.invokestatic 65, 3) := by decide +kernel
theorem dX10_month_9 : decode cX10_month 9 = .ok (.ifCond .eq 25, 3) := by decide +kernel
theorem dX10_month_12 : decode cX10_month 12 = .ok (.iload_n 2, 1) := by decide +kernel
theorem dX10_month_13 : decode cX10_month 13 = .ok (.i2l, 1) := by decide +kernel
theorem dX10_month_14 : decode cX10_month 14 = .ok (.lconst 1, 1) := by decide +kernel
theorem dX10_month_15 : decode cX10_month 15 = .ok (.ldc2_w 219, 3) := by decide +kernel
theorem dX10_month_18 : decode cX10_month 18 = .ok (.invokestatic 65, 3) := by decide +kernel
theorem dX10_month_21 : decode cX10_month 21 = .ok (.ifCond .eq 13, 3) := by decide +kernel
theorem dX10_month_24 : decode cX10_month 24 = .ok (.iload_n 3, 1) := by decide +kernel
theorem dX10_month_25 : decode cX10_month 25 = .ok (.i2l, 1) := by decide +kernel
theorem dX10_month_26 : decode cX10_month 26 = .ok (.lconst 0, 1) := by decide +kernel
theorem dX10_month_27 : decode cX10_month 27 = .ok (.lconst 1, 1) := by decide +kernel
theorem dX10_month_28 : decode cX10_month 28 = .ok (.invokestatic 65, 3) := by decide +kernel
theorem dX10_month_31 : decode cX10_month 31 = .ok (.ifCond .ne 5, 3) := by decide +kernel
theorem dX10_month_34 : decode cX10_month 34 = .ok (.iconst (-1), 1) := by decide +kernel
theorem dX10_month_35 : decode cX10_month 35 = .ok (.ireturn, 1) := by decide +kernel
theorem dX10_month_36 : decode cX10_month 36 = .ok (.iconst 0, 1) := by decide +kernel
theorem dX10_month_37 : decode cX10_month 37 = .ok (.istore 4, 2) := by decide +kernel
theorem dX10_month_39 : decode cX10_month 39 = .ok (.iconst 0, 1) := by decide +kernel
theorem dX10_month_40 : decode cX10_month 40 = .ok (.istore 5, 2) := by decide +kernel
theorem dX10_month_42 : decode cX10_month 42 = .ok (.iconst 0, 1) := by decide +kernel
theorem dX10_month_43 : decode cX10_month 43 = .ok (.istore 6, 2) := by decide +kernel
theorem dX10_month_45 : decode cX10_month 45 = .ok (.iload 6, 2) := by decide +kernel
theorem dX10_month_47 : decode cX10_month 47 = .ok (.iload_n 2, 1) := by decide +kernel
theorem dX10_month_48 : decode cX10_month 48 = .ok (.if_icmp .ge 124, 3) := by decide +kernel
theorem dX10_month_51 : decode cX10_month 51 = .ok (.ldc2_w 221, 3) := by decide +kernel
theorem dX10_month_54 : decode cX10_month 54 = .ok (.iload_n 1, 1) := by decide +kernel
theorem dX10_month_55 : decode cX10_month 55 = .ok (.i2l, 1) := by decide +kernel
theorem dX10_month_56 : decode cX10_month 56 = .ok (.lmul, 1) := by decide +kernel
theorem dX10_month_57 : decode cX10_month 57 = .ok (.ldc2_w 223, 3) := by decide +kernel
theorem dX10_month_60 : decode cX10_month 60 = .ok (.iload 6, 2) := by decide +kernel
theorem dX10_month_62 : decode cX10_month 62 = .ok (.i2l, 1) := by decide +kernel
theorem dX10_month_63 : decode cX10_month 63 = .ok (.lmul, 1) := by decide +kernel
theorem dX10_month_64 : decode cX10_month 64 = .ok (.ladd, 1) := by decide +kernel
theorem dX10_month_65 : decode cX10_month 65 = .ok (.lconst 1, 1) := by decide +kernel
theorem dX10_month_66 : decode cX10_month 66 = .ok (.ladd, 1) := by decide +kernel
theorem dX10_month_67 : decode cX10_month 67 = .ok (.lstore 7, 2) := by decide +kernel
theorem dX10_month_69 : decode cX10_month 69 = .ok (.lload 7, 2) := by decide +kernel
theorem dX10_month_71 : decode cX10_month 71 = .ok (.lload 7, 2) := by decide +kernel
theorem dX10_month_73 : decode cX10_month 73 = .ok (.lmul, 1) := by decide +kernel
theorem dX10_month_74 : decode cX10_month 74 = .ok (.ldc2_w 225, 3) := by decide +kernel
theorem dX10_month_77 : decode cX10_month 77 = .ok (.lrem, 1) := by decide +kernel
theorem dX10_month_78 : decode cX10_month 78 = .ok (.l2i, 1) := by decide +kernel
theorem dX10_month_79 : decode cX10_month 79 = .ok (.istore 9, 2) := by decide +kernel
theorem dX10_month_81 : decode cX10_month 81 = .ok (.iload 9, 2) := by decide +kernel
theorem dX10_month_83 : decode cX10_month 83 = .ok (.aload_n 0, 1) := by decide +kernel
theorem dX10_month_84 : decode cX10_month 84 = .ok (.getfield 17, 3) := by decide +kernel
theorem dX10_month_87 : decode cX10_month 87 = .ok (.iconst 0, 1) := by decide +kernel
theorem dX10_month_88 : decode cX10_month 88 = .ok (.iaload, 1) := by decide +kernel
theorem dX10_month_89 : decode cX10_month 89 = .ok (.irem, 1) := by decide +kernel
theorem dX10_month_90 : decode cX10_month 90 = .ok (.istore 10, 2) := by decide +kernel
theorem dX10_month_92 : decode cX10_month 92 = .ok (.aload_n 0, 1) := by decide +kernel
theorem dX10_month_93 : decode cX10_month 93 = .ok (.aload_n 0, 1) := by decide +kernel
theorem dX10_month_94 : decode cX10_month 94 = .ok (.aload_n 0, 1) := by decide +kernel
theorem dX10_month_95 : decode cX10_month 95 = .ok (.getfield 20, 3) := by decide +kernel
theorem dX10_month_98 : decode cX10_month 98 = .ok (.iconst 2, 1) := by decide +kernel
theorem dX10_month_99 : decode cX10_month 99 = .ok (.iload 10, 2) := by decide +kernel
theorem dX10_month_101 : decode cX10_month 101 = .ok (.imul, 1) := by decide +kernel
theorem dX10_month_102 : decode cX10_month 102 = .ok (.iaload, 1) := by decide +kernel
theorem dX10_month_103 : decode cX10_month 103 = .ok (.iload 9, 2) := by decide +kernel
theorem dX10_month_105 : decode cX10_month 105 = .ok (.bipush 16, 2) := by decide +kernel
theorem dX10_month_107 : decode cX10_month 107 = .ok (.idiv, 1) := by decide +kernel
theorem dX10_month_108 : decode cX10_month 108 = .ok (.bipush 7, 2) := by decide +kernel
theorem dX10_month_110 : decode cX10_month 110 = .ok (.irem, 1) := by decide +kernel
theorem dX10_month_111 : decode cX10_month 111 = .ok (.iload 9, 2) := by decide +kernel
theorem dX10_month_113 : decode cX10_month 113 = .ok (.sipush 256, 3) := by decide +kernel
theorem dX10_month_116 : decode cX10_month 116 = .ok (.idiv, 1) := by decide +kernel
theorem dX10_month_117 : decode cX10_month 117 = .ok (.iconst 3, 1) := by decide +kernel
theorem dX10_month_118 : decode cX10_month 118 = .ok (.irem, 1) := by decide +kernel
theorem dX10_month_119 : decode cX10_month 119 = .ok (.invokevirtual 127, 3) := by decide +kernel
theorem dX10_month_122 : decode cX10_month 122 = .ok (.invokevirtual 147, 3) := by decide +kernel
theorem dX10_month_125 : decode cX10_month 125 = .ok (.istore 11, 2) := by decide +kernel
theorem dX10_month_127 : decode cX10_month 127 = .ok (.iload 4, 2) := by decide +kernel
theorem dX10_month_129 : decode cX10_month 129 = .ok (.iload 11, 2) := by decide +kernel
theorem dX10_month_131 : decode cX10_month 131 = .ok (.iload 10, 2) := by decide +kernel
theorem dX10_month_133 : decode cX10_month 133 = .ok (.if_icmp .ne 7, 3) := by decide +kernel
theorem dX10_month_136 : decode cX10_month 136 = .ok (.iconst 1, 1) := by decide +kernel
theorem dX10_month_137 : decode cX10_month 137 = .ok (.goto 4, 3) := by decide +kernel
theorem dX10_month_140 : decode cX10_month 140 = .ok (.iconst 0, 1) := by decide +kernel
theorem dX10_month_141 : decode cX10_month 141 = .ok (.iadd, 1) := by decide +kernel
theorem dX10_month_142 : decode cX10_month 142 = .ok (.istore 4, 2) := by decide +kernel
theorem dX10_month_144 : decode cX10_month 144 = .ok (.iload 5, 2) := by decide +kernel
theorem dX10_month_146 : decode cX10_month 146 = .ok (.iload 11, 2) := by decide +kernel
theorem dX10_month_148 : decode cX10_month 148 = .ok (.ifCond .lt 14, 3) := by decide +kernel
theorem dX10_month_151 : decode cX10_month 151 = .ok (.iload 11, 2) := by decide +kernel
theorem dX10_month_153 : decode cX10_month 153 = .ok (.iload 10, 2) := by decide +kernel
theorem dX10_month_155 : decode cX10_month 155 = .ok (.if_icmp .eq 7, 3) := by decide +kernel
theorem dX10_month_158 : decode cX10_month 158 = .ok (.iconst 1, 1) := by decide +kernel
theorem dX10_month_159 : decode cX10_month 159 = .ok (.goto 4, 3) := by decide +kernel
theorem dX10_month_162 : decode cX10_month 162 = .ok (.iconst 0, 1) := by decide +kernel
theorem dX10_month_163 : decode cX10_month 163 = .ok (.iadd, 1) := by decide +kernel
theorem dX10_month_164 : decode cX10_month 164 = .ok (.istore 5, 2) := by decide +kernel
theorem dX10_month_166 : decode cX10_month 166 = .ok (.iinc 6 1, 3) := by decide +kernel
theorem dX10_month_169 : decode cX10_month 169 = .ok (.goto (-124), 3) := by decide +kernel
theorem dX10_month_172 : decode cX10_month 172 = .ok (.iload_n 3, 1) := by decide +kernel
theorem dX10_month_173 : decode cX10_month 173 = .ok (.ifCond .ne 8, 3) := by decide +kernel
theorem dX10_month_176 : decode cX10_month 176 = .ok (.iload 4, 2) := by decide +kernel
theorem dX10_month_178 : decode cX10_month 178 = .ok (.goto 5, 3) := by decide +kernel
theorem dX10_month_181 : decode cX10_month 181 = .ok (.iload 5, 2) := by decide +kernel
theorem dX10_month_183 : decode cX10_month 183 = .ok (.ireturn, 1) := by decide +kernel
theorem dX10_copies_0 : decode cX10_copies 0 = .ok (.aload_n 0, 1) := by decide +kernel
theorem dX10_copies_1 : decode cX10_copies 1 = .ok (.getfield 35, 3) := by decide +kernel
theorem dX10_copies_4 : decode cX10_copies 4 = .ok (.iload_n 2, 1) := by decide +kernel
theorem dX10_copies_5 : decode cX10_copies 5 = .ok (.aload_n 0, 1) := by decide +kernel
theorem dX10_copies_6 : decode cX10_copies 6 = .ok (.getfield 35, 3) := by decide +kernel
theorem dX10_copies_9 : decode cX10_copies 9 = .ok (.iload_n 1, 1) := by decide +kernel
theorem dX10_copies_10 : decode cX10_copies 10 = .ok (.iaload, 1) := by decide +kernel
theorem dX10_copies_11 : decode cX10_copies 11 = .ok (.iastore, 1) := by decide +kernel
theorem dX10_copies_12 : decode cX10_copies 12 = .ok (.aload_n 0, 1) := by decide +kernel
theorem dX10_copies_13 : decode cX10_copies 13 = .ok (.getfield 41, 3) := by decide +kernel
theorem dX10_copies_16 : decode cX10_copies 16 = .ok (.iload_n 2, 1) := by decide +kernel
theorem dX10_copies_17 : decode cX10_copies 17 = .ok (.aload_n 0, 1) := by decide +kernel
theorem dX10_copies_18 : decode cX10_copies 18 = .ok (.getfield 41, 3) := by decide +kernel
theorem dX10_copies_21 : decode cX10_copies 21 = .ok (.iload_n 1, 1) := by decide +kernel
theorem dX10_copies_22 : decode cX10_copies 22 = .ok (.iaload, 1) := by decide +kernel
theorem dX10_copies_23 : decode cX10_copies 23 = .ok (.iastore, 1) := by decide +kernel
theorem dX10_copies_24 : decode cX10_copies 24 = .ok (.iconst 0, 1) := by decide +kernel
theorem dX10_copies_25 : decode cX10_copies 25 = .ok (.istore_n 3, 1) := by decide +kernel
theorem dX10_copies_26 : decode cX10_copies 26 = .ok (.iload_n 3, 1) := by decide +kernel
theorem dX10_copies_27 : decode cX10_copies 27 = .ok (.bipush 32, 2) := by decide +kernel
theorem dX10_copies_29 : decode cX10_copies 29 = .ok (.if_icmp .ge 31, 3) := by decide +kernel
theorem dX10_copies_32 : decode cX10_copies 32 = .ok (.aload_n 0, 1) := by decide +kernel
theorem dX10_copies_33 : decode cX10_copies 33 = .ok (.getfield 38, 3) := by decide +kernel
theorem dX10_copies_36 : decode cX10_copies 36 = .ok (.bipush 32, 2) := by decide +kernel
theorem dX10_copies_38 : decode cX10_copies 38 = .ok (.iload_n 2, 1) := by decide +kernel
theorem dX10_copies_39 : decode cX10_copies 39 = .ok (.imul, 1) := by decide +kernel
theorem dX10_copies_40 : decode cX10_copies 40 = .ok (.iload_n 3, 1) := by decide +kernel
theorem dX10_copies_41 : decode cX10_copies 41 = .ok (.iadd, 1) := by decide +kernel
theorem dX10_copies_42 : decode cX10_copies 42 = .ok (.aload_n 0, 1) := by decide +kernel
theorem dX10_copies_43 : decode cX10_copies 43 = .ok (.getfield 38, 3) := by decide +kernel
theorem dX10_copies_46 : decode cX10_copies 46 = .ok (.bipush 32, 2) := by decide +kernel
theorem dX10_copies_48 : decode cX10_copies 48 = .ok (.iload_n 1, 1) := by decide +kernel
theorem dX10_copies_49 : decode cX10_copies 49 = .ok (.imul, 1) := by decide +kernel
theorem dX10_copies_50 : decode cX10_copies 50 = .ok (.iload_n 3, 1) := by decide +kernel
theorem dX10_copies_51 : decode cX10_copies 51 = .ok (.iadd, 1) := by decide +kernel
theorem dX10_copies_52 : decode cX10_copies 52 = .ok (.iaload, 1) := by decide +kernel
theorem dX10_copies_53 : decode cX10_copies 53 = .ok (.iastore, 1) := by decide +kernel
theorem dX10_copies_54 : decode cX10_copies 54 = .ok (.iinc 3 1, 3) := by decide +kernel
theorem dX10_copies_57 : decode cX10_copies 57 = .ok (.goto (-31), 3) := by decide +kernel
theorem dX10_copies_60 : decode cX10_copies 60 = .ok (.return_, 1) := by decide +kernel
theorem dX10_keep_0 : decode cX10_keep 0 = .ok (.aload_n 0, 1) := by decide +kernel
theorem dX10_keep_1 : decode cX10_keep 1 = .ok (.getfield 101, 3) := by decide +kernel
theorem dX10_keep_4 : decode cX10_keep 4 = .ok (.iconst 2, 1) := by decide +kernel
theorem dX10_keep_5 : decode cX10_keep 5 = .ok (.if_icmp .ne 6, 3) := by decide +kernel
theorem dX10_keep_8 : decode cX10_keep 8 = .ok (.bipush (-3), 2) := by decide +kernel
theorem dX10_keep_10 : decode cX10_keep 10 = .ok (.ireturn, 1) := by decide +kernel
theorem dX10_keep_11 : decode cX10_keep 11 = .ok (.aload_n 0, 1) := by decide +kernel
theorem dX10_keep_12 : decode cX10_keep 12 = .ok (.dup, 1) := by decide +kernel
theorem dX10_keep_13 : decode cX10_keep 13 = .ok (.getfield 101, 3) := by decide +kernel
theorem dX10_keep_16 : decode cX10_keep 16 = .ok (.iconst 1, 1) := by decide +kernel
theorem dX10_keep_17 : decode cX10_keep 17 = .ok (.iadd, 1) := by decide +kernel
theorem dX10_keep_18 : decode cX10_keep 18 = .ok (.putfield 101, 3) := by decide +kernel
theorem dX10_keep_21 : decode cX10_keep 21 = .ok (.aload_n 0, 1) := by decide +kernel
theorem dX10_keep_22 : decode cX10_keep 22 = .ok (.iconst 0, 1) := by decide +kernel
theorem dX10_keep_23 : decode cX10_keep 23 = .ok (.aload_n 0, 1) := by decide +kernel
theorem dX10_keep_24 : decode cX10_keep 24 = .ok (.getfield 101, 3) := by decide +kernel
theorem dX10_keep_27 : decode cX10_keep 27 = .ok (.invokevirtual 227, 3) := by decide +kernel
theorem dX10_keep_30 : decode cX10_keep 30 = .ok (.aload_n 0, 1) := by decide +kernel
theorem dX10_keep_31 : decode cX10_keep 31 = .ok (.getfield 101, 3) := by decide +kernel
theorem dX10_keep_34 : decode cX10_keep 34 = .ok (.ireturn, 1) := by decide +kernel
theorem dX10_back_0 : decode cX10_back 0 = .ok (.aload_n 0, 1) := by decide +kernel
theorem dX10_back_1 : decode cX10_back 1 = .ok (.getfield 101, 3) := by decide +kernel
theorem dX10_back_4 : decode cX10_back 4 = .ok (.ifCond .ne 6, 3) := by decide +kernel
theorem dX10_back_7 : decode cX10_back 7 = .ok (.bipush (-2), 2) := by decide +kernel
theorem dX10_back_9 : decode cX10_back 9 = .ok (.ireturn, 1) := by decide +kernel
theorem dX10_back_10 : decode cX10_back 10 = .ok (.aload_n 0, 1) := by decide +kernel
theorem dX10_back_11 : decode cX10_back 11 = .ok (.aload_n 0, 1) := by decide +kernel
theorem dX10_back_12 : decode cX10_back 12 = .ok (.getfield 101, 3) := by decide +kernel
theorem dX10_back_15 : decode cX10_back 15 = .ok (.iconst 0, 1) := by decide +kernel
theorem dX10_back_16 : decode cX10_back 16 = .ok (.invokevirtual 227, 3) := by decide +kernel
theorem dX10_back_19 : decode cX10_back 19 = .ok (.aload_n 0, 1) := by decide +kernel
theorem dX10_back_20 : decode cX10_back 20 = .ok (.dup, 1) := by decide +kernel
theorem dX10_back_21 : decode cX10_back 21 = .ok (.getfield 101, 3) := by decide +kernel
theorem dX10_back_24 : decode cX10_back 24 = .ok (.iconst 1, 1) := by decide +kernel
theorem dX10_back_25 : decode cX10_back 25 = .ok (.isub, 1) := by decide +kernel
theorem dX10_back_26 : decode cX10_back 26 = .ok (.putfield 101, 3) := by decide +kernel
theorem dX10_back_29 : decode cX10_back 29 = .ok (.aload_n 0, 1) := by decide +kernel
theorem dX10_back_30 : decode cX10_back 30 = .ok (.iconst 0, 1) := by decide +kernel
theorem dX10_back_31 : decode cX10_back 31 = .ok (.putfield 98, 3) := by decide +kernel
theorem dX10_back_34 : decode cX10_back 34 = .ok (.aload_n 0, 1) := by decide +kernel
theorem dX10_back_35 : decode cX10_back 35 = .ok (.getfield 101, 3) := by decide +kernel
theorem dX10_back_38 : decode cX10_back 38 = .ok (.ireturn, 1) := by decide +kernel
theorem dX10_count_0 : decode cX10_count 0 = .ok (.iload_n 1, 1) := by decide +kernel
theorem dX10_count_1 : decode cX10_count 1 = .ok (.tableswitch 97 0 7 #[47, 54, 61, 68, 75, 82, 87, 92], 47) := by decide +kernel
theorem dX10_count_48 : decode cX10_count 48 = .ok (.aload_n 0, 1) := by decide +kernel
theorem dX10_count_49 : decode cX10_count 49 = .ok (.getfield 17, 3) := by decide +kernel
theorem dX10_count_52 : decode cX10_count 52 = .ok (.iconst 0, 1) := by decide +kernel
theorem dX10_count_53 : decode cX10_count 53 = .ok (.iaload, 1) := by decide +kernel
theorem dX10_count_54 : decode cX10_count 54 = .ok (.ireturn, 1) := by decide +kernel
theorem dX10_count_55 : decode cX10_count 55 = .ok (.aload_n 0, 1) := by decide +kernel
theorem dX10_count_56 : decode cX10_count 56 = .ok (.getfield 23, 3) := by decide +kernel
theorem dX10_count_59 : decode cX10_count 59 = .ok (.iconst 0, 1) := by decide +kernel
theorem dX10_count_60 : decode cX10_count 60 = .ok (.iaload, 1) := by decide +kernel
theorem dX10_count_61 : decode cX10_count 61 = .ok (.ireturn, 1) := by decide +kernel
theorem dX10_count_62 : decode cX10_count 62 = .ok (.aload_n 0, 1) := by decide +kernel
theorem dX10_count_63 : decode cX10_count 63 = .ok (.getfield 29, 3) := by decide +kernel
theorem dX10_count_66 : decode cX10_count 66 = .ok (.iconst 0, 1) := by decide +kernel
theorem dX10_count_67 : decode cX10_count 67 = .ok (.iaload, 1) := by decide +kernel
theorem dX10_count_68 : decode cX10_count 68 = .ok (.ireturn, 1) := by decide +kernel
theorem dX10_count_69 : decode cX10_count 69 = .ok (.aload_n 0, 1) := by decide +kernel
theorem dX10_count_70 : decode cX10_count 70 = .ok (.getfield 35, 3) := by decide +kernel
theorem dX10_count_73 : decode cX10_count 73 = .ok (.iconst 0, 1) := by decide +kernel
theorem dX10_count_74 : decode cX10_count 74 = .ok (.iaload, 1) := by decide +kernel
theorem dX10_count_75 : decode cX10_count 75 = .ok (.ireturn, 1) := by decide +kernel
theorem dX10_count_76 : decode cX10_count 76 = .ok (.aload_n 0, 1) := by decide +kernel
theorem dX10_count_77 : decode cX10_count 77 = .ok (.getfield 41, 3) := by decide +kernel
theorem dX10_count_80 : decode cX10_count 80 = .ok (.iconst 0, 1) := by decide +kernel
theorem dX10_count_81 : decode cX10_count 81 = .ok (.iaload, 1) := by decide +kernel
theorem dX10_count_82 : decode cX10_count 82 = .ok (.ireturn, 1) := by decide +kernel
theorem dX10_count_83 : decode cX10_count 83 = .ok (.aload_n 0, 1) := by decide +kernel
theorem dX10_count_84 : decode cX10_count 84 = .ok (.getfield 98, 3) := by decide +kernel
theorem dX10_count_87 : decode cX10_count 87 = .ok (.ireturn, 1) := by decide +kernel
theorem dX10_count_88 : decode cX10_count 88 = .ok (.aload_n 0, 1) := by decide +kernel
theorem dX10_count_89 : decode cX10_count 89 = .ok (.getfield 101, 3) := by decide +kernel
theorem dX10_count_92 : decode cX10_count 92 = .ok (.ireturn, 1) := by decide +kernel
theorem dX10_count_93 : decode cX10_count 93 = .ok (.aload_n 0, 1) := by decide +kernel
theorem dX10_count_94 : decode cX10_count 94 = .ok (.getfield 69, 3) := by decide +kernel
theorem dX10_count_97 : decode cX10_count 97 = .ok (.ireturn, 1) := by decide +kernel
theorem dX10_count_98 : decode cX10_count 98 = .ok (.iconst (-1), 1) := by decide +kernel
theorem dX10_count_99 : decode cX10_count 99 = .ok (.ireturn, 1) := by decide +kernel
end
section
theorem dL_law_0 : decode cL_law 0 = .ok (.new 7, 3) := by decide +kernel
theorem dL_law_3 : decode cL_law 3 = .ok (.dup, 1) := by decide +kernel
theorem dL_law_4 : decode cL_law 4 = .ok (.invokespecial 9, 3) := by decide +kernel
theorem dL_law_7 : decode cL_law 7 = .ok (.astore_n 1, 1) := by decide +kernel
theorem dL_law_8 : decode cL_law 8 = .ok (.new 10, 3) := by decide +kernel
theorem dL_law_11 : decode cL_law 11 = .ok (.dup, 1) := by decide +kernel
theorem dL_law_12 : decode cL_law 12 = .ok (.invokespecial 12, 3) := by decide +kernel
theorem dL_law_15 : decode cL_law 15 = .ok (.astore_n 2, 1) := by decide +kernel
theorem dL_law_16 : decode cL_law 16 = .ok (.iconst 0, 1) := by decide +kernel
theorem dL_law_17 : decode cL_law 17 = .ok (.istore_n 3, 1) := by decide +kernel
theorem dL_law_18 : decode cL_law 18 = .ok (.iload_n 3, 1) := by decide +kernel
theorem dL_law_19 : decode cL_law 19 = .ok (.aload_n 0, 1) := by decide +kernel
theorem dL_law_20 : decode cL_law 20 = .ok (.arraylength, 1) := by decide +kernel
theorem dL_law_21 : decode cL_law 21 = .ok (.bipush 6, 2) := by decide +kernel
theorem dL_law_23 : decode cL_law 23 = .ok (.isub, 1) := by decide +kernel
theorem dL_law_24 : decode cL_law 24 = .ok (.if_icmp .gt 993, 3) := by decide +kernel
theorem dL_law_27 : decode cL_law 27 = .ok (.aload_n 0, 1) := by decide +kernel
theorem dL_law_28 : decode cL_law 28 = .ok (.iload_n 3, 1) := by decide +kernel
theorem dL_law_29 : decode cL_law 29 = .ok (.iaload, 1) := by decide +kernel
theorem dL_law_30 : decode cL_law 30 = .ok (.bipush 31, 2) := by decide +kernel
theorem dL_law_32 : decode cL_law 32 = .ok (.iand, 1) := by decide +kernel
theorem dL_law_33 : decode cL_law 33 = .ok (.tableswitch 978 0 25 #[119, 182, 195, 208, 221, 254, 287, 300, 323, 346, 359, 392, 435, 478, 531, 574, 617, 670, 723, 756, 820, 853, 886, 929, 942, 955], 119) := by decide +kernel
theorem dL_law_152 : decode cL_law 152 = .ok (.aload_n 1, 1) := by decide +kernel
theorem dL_law_153 : decode cL_law 153 = .ok (.aload_n 0, 1) := by decide +kernel
theorem dL_law_154 : decode cL_law 154 = .ok (.iload_n 3, 1) := by decide +kernel
theorem dL_law_155 : decode cL_law 155 = .ok (.iconst 1, 1) := by decide +kernel
theorem dL_law_156 : decode cL_law 156 = .ok (.iadd, 1) := by decide +kernel
theorem dL_law_157 : decode cL_law 157 = .ok (.iaload, 1) := by decide +kernel
theorem dL_law_158 : decode cL_law 158 = .ok (.aload_n 0, 1) := by decide +kernel
theorem dL_law_159 : decode cL_law 159 = .ok (.iload_n 3, 1) := by decide +kernel
theorem dL_law_160 : decode cL_law 160 = .ok (.iconst 2, 1) := by decide +kernel
theorem dL_law_161 : decode cL_law 161 = .ok (.iadd, 1) := by decide +kernel
theorem dL_law_162 : decode cL_law 162 = .ok (.iaload, 1) := by decide +kernel
theorem dL_law_163 : decode cL_law 163 = .ok (.i2l, 1) := by decide +kernel
theorem dL_law_164 : decode cL_law 164 = .ok (.bipush 32, 2) := by decide +kernel
theorem dL_law_166 : decode cL_law 166 = .ok (.lshl, 1) := by decide +kernel
theorem dL_law_167 : decode cL_law 167 = .ok (.aload_n 0, 1) := by decide +kernel
theorem dL_law_168 : decode cL_law 168 = .ok (.iload_n 3, 1) := by decide +kernel
theorem dL_law_169 : decode cL_law 169 = .ok (.iconst 3, 1) := by decide +kernel
theorem dL_law_170 : decode cL_law 170 = .ok (.iadd, 1) := by decide +kernel
theorem dL_law_171 : decode cL_law 171 = .ok (.iaload, 1) := by decide +kernel
theorem dL_law_172 : decode cL_law 172 = .ok (.i2l, 1) := by decide +kernel
theorem dL_law_173 : decode cL_law 173 = .ok (.ldc2_w 13, 3) := by decide +kernel
theorem dL_law_176 : decode cL_law 176 = .ok (.land, 1) := by decide +kernel
theorem dL_law_177 : decode cL_law 177 = .ok (.lor, 1) := by decide +kernel
theorem dL_law_178 : decode cL_law 178 = .ok (.invokevirtual 15, 3) := by decide +kernel
theorem dL_law_181 : decode cL_law 181 = .ok (.aload_n 2, 1) := by decide +kernel
theorem dL_law_182 : decode cL_law 182 = .ok (.aload_n 0, 1) := by decide +kernel
theorem dL_law_183 : decode cL_law 183 = .ok (.iload_n 3, 1) := by decide +kernel
theorem dL_law_184 : decode cL_law 184 = .ok (.iconst 1, 1) := by decide +kernel
theorem dL_law_185 : decode cL_law 185 = .ok (.iadd, 1) := by decide +kernel
theorem dL_law_186 : decode cL_law 186 = .ok (.iaload, 1) := by decide +kernel
theorem dL_law_187 : decode cL_law 187 = .ok (.aload_n 0, 1) := by decide +kernel
theorem dL_law_188 : decode cL_law 188 = .ok (.iload_n 3, 1) := by decide +kernel
theorem dL_law_189 : decode cL_law 189 = .ok (.iconst 2, 1) := by decide +kernel
theorem dL_law_190 : decode cL_law 190 = .ok (.iadd, 1) := by decide +kernel
theorem dL_law_191 : decode cL_law 191 = .ok (.iaload, 1) := by decide +kernel
theorem dL_law_192 : decode cL_law 192 = .ok (.i2l, 1) := by decide +kernel
theorem dL_law_193 : decode cL_law 193 = .ok (.bipush 32, 2) := by decide +kernel
theorem dL_law_195 : decode cL_law 195 = .ok (.lshl, 1) := by decide +kernel
theorem dL_law_196 : decode cL_law 196 = .ok (.aload_n 0, 1) := by decide +kernel
theorem dL_law_197 : decode cL_law 197 = .ok (.iload_n 3, 1) := by decide +kernel
theorem dL_law_198 : decode cL_law 198 = .ok (.iconst 3, 1) := by decide +kernel
theorem dL_law_199 : decode cL_law 199 = .ok (.iadd, 1) := by decide +kernel
theorem dL_law_200 : decode cL_law 200 = .ok (.iaload, 1) := by decide +kernel
theorem dL_law_201 : decode cL_law 201 = .ok (.i2l, 1) := by decide +kernel
theorem dL_law_202 : decode cL_law 202 = .ok (.ldc2_w 13, 3) := by decide +kernel
theorem dL_law_205 : decode cL_law 205 = .ok (.land, 1) := by decide +kernel
theorem dL_law_206 : decode cL_law 206 = .ok (.lor, 1) := by decide +kernel
theorem dL_law_207 : decode cL_law 207 = .ok (.invokevirtual 19, 3) := by decide +kernel
theorem dL_law_210 : decode cL_law 210 = .ok (.if_icmp .eq 801, 3) := by decide +kernel
theorem dL_law_213 : decode cL_law 213 = .ok (.iconst 0, 1) := by decide +kernel
theorem dL_law_214 : decode cL_law 214 = .ok (.ireturn, 1) := by decide +kernel
theorem dL_law_215 : decode cL_law 215 = .ok (.aload_n 1, 1) := by decide +kernel
theorem dL_law_216 : decode cL_law 216 = .ok (.invokevirtual 20, 3) := by decide +kernel
theorem dL_law_219 : decode cL_law 219 = .ok (.aload_n 2, 1) := by decide +kernel
theorem dL_law_220 : decode cL_law 220 = .ok (.invokevirtual 24, 3) := by decide +kernel
theorem dL_law_223 : decode cL_law 223 = .ok (.if_icmp .eq 788, 3) := by decide +kernel
theorem dL_law_226 : decode cL_law 226 = .ok (.iconst 0, 1) := by decide +kernel
theorem dL_law_227 : decode cL_law 227 = .ok (.ireturn, 1) := by decide +kernel
theorem dL_law_228 : decode cL_law 228 = .ok (.aload_n 1, 1) := by decide +kernel
theorem dL_law_229 : decode cL_law 229 = .ok (.invokevirtual 25, 3) := by decide +kernel
theorem dL_law_232 : decode cL_law 232 = .ok (.aload_n 2, 1) := by decide +kernel
theorem dL_law_233 : decode cL_law 233 = .ok (.invokevirtual 28, 3) := by decide +kernel
theorem dL_law_236 : decode cL_law 236 = .ok (.if_icmp .eq 775, 3) := by decide +kernel
theorem dL_law_239 : decode cL_law 239 = .ok (.iconst 0, 1) := by decide +kernel
theorem dL_law_240 : decode cL_law 240 = .ok (.ireturn, 1) := by decide +kernel
theorem dL_law_241 : decode cL_law 241 = .ok (.aload_n 1, 1) := by decide +kernel
theorem dL_law_242 : decode cL_law 242 = .ok (.invokevirtual 29, 3) := by decide +kernel
theorem dL_law_245 : decode cL_law 245 = .ok (.aload_n 2, 1) := by decide +kernel
theorem dL_law_246 : decode cL_law 246 = .ok (.invokevirtual 32, 3) := by decide +kernel
theorem dL_law_249 : decode cL_law 249 = .ok (.if_icmp .eq 762, 3) := by decide +kernel
theorem dL_law_252 : decode cL_law 252 = .ok (.iconst 0, 1) := by decide +kernel
theorem dL_law_253 : decode cL_law 253 = .ok (.ireturn, 1) := by decide +kernel
theorem dL_law_254 : decode cL_law 254 = .ok (.aload_n 1, 1) := by decide +kernel
theorem dL_law_255 : decode cL_law 255 = .ok (.aload_n 0, 1) := by decide +kernel
theorem dL_law_256 : decode cL_law 256 = .ok (.iload_n 3, 1) := by decide +kernel
theorem dL_law_257 : decode cL_law 257 = .ok (.iconst 1, 1) := by decide +kernel
theorem dL_law_258 : decode cL_law 258 = .ok (.iadd, 1) := by decide +kernel
theorem dL_law_259 : decode cL_law 259 = .ok (.iaload, 1) := by decide +kernel
theorem dL_law_260 : decode cL_law 260 = .ok (.aload_n 0, 1) := by decide +kernel
theorem dL_law_261 : decode cL_law 261 = .ok (.iload_n 3, 1) := by decide +kernel
theorem dL_law_262 : decode cL_law 262 = .ok (.iconst 2, 1) := by decide +kernel
theorem dL_law_263 : decode cL_law 263 = .ok (.iadd, 1) := by decide +kernel
theorem dL_law_264 : decode cL_law 264 = .ok (.iaload, 1) := by decide +kernel
theorem dL_law_265 : decode cL_law 265 = .ok (.invokevirtual 33, 3) := by decide +kernel
theorem dL_law_268 : decode cL_law 268 = .ok (.aload_n 2, 1) := by decide +kernel
theorem dL_law_269 : decode cL_law 269 = .ok (.aload_n 0, 1) := by decide +kernel
theorem dL_law_270 : decode cL_law 270 = .ok (.iload_n 3, 1) := by decide +kernel
theorem dL_law_271 : decode cL_law 271 = .ok (.iconst 1, 1) := by decide +kernel
theorem dL_law_272 : decode cL_law 272 = .ok (.iadd, 1) := by decide +kernel
theorem dL_law_273 : decode cL_law 273 = .ok (.iaload, 1) := by decide +kernel
theorem dL_law_274 : decode cL_law 274 = .ok (.aload_n 0, 1) := by decide +kernel
theorem dL_law_275 : decode cL_law 275 = .ok (.iload_n 3, 1) := by decide +kernel
theorem dL_law_276 : decode cL_law 276 = .ok (.iconst 2, 1) := by decide +kernel
theorem dL_law_277 : decode cL_law 277 = .ok (.iadd, 1) := by decide +kernel
theorem dL_law_278 : decode cL_law 278 = .ok (.iaload, 1) := by decide +kernel
theorem dL_law_279 : decode cL_law 279 = .ok (.invokevirtual 37, 3) := by decide +kernel
theorem dL_law_282 : decode cL_law 282 = .ok (.if_icmp .eq 729, 3) := by decide +kernel
theorem dL_law_285 : decode cL_law 285 = .ok (.iconst 0, 1) := by decide +kernel
theorem dL_law_286 : decode cL_law 286 = .ok (.ireturn, 1) := by decide +kernel
theorem dL_law_287 : decode cL_law 287 = .ok (.aload_n 1, 1) := by decide +kernel
theorem dL_law_288 : decode cL_law 288 = .ok (.aload_n 0, 1) := by decide +kernel
theorem dL_law_289 : decode cL_law 289 = .ok (.iload_n 3, 1) := by decide +kernel
theorem dL_law_290 : decode cL_law 290 = .ok (.iconst 1, 1) := by decide +kernel
theorem dL_law_291 : decode cL_law 291 = .ok (.iadd, 1) := by decide +kernel
theorem dL_law_292 : decode cL_law 292 = .ok (.iaload, 1) := by decide +kernel
theorem dL_law_293 : decode cL_law 293 = .ok (.aload_n 0, 1) := by decide +kernel
theorem dL_law_294 : decode cL_law 294 = .ok (.iload_n 3, 1) := by decide +kernel
theorem dL_law_295 : decode cL_law 295 = .ok (.iconst 2, 1) := by decide +kernel
theorem dL_law_296 : decode cL_law 296 = .ok (.iadd, 1) := by decide +kernel
theorem dL_law_297 : decode cL_law 297 = .ok (.iaload, 1) := by decide +kernel
theorem dL_law_298 : decode cL_law 298 = .ok (.invokevirtual 38, 3) := by decide +kernel
theorem dL_law_301 : decode cL_law 301 = .ok (.aload_n 2, 1) := by decide +kernel
theorem dL_law_302 : decode cL_law 302 = .ok (.aload_n 0, 1) := by decide +kernel
theorem dL_law_303 : decode cL_law 303 = .ok (.iload_n 3, 1) := by decide +kernel
theorem dL_law_304 : decode cL_law 304 = .ok (.iconst 1, 1) := by decide +kernel
theorem dL_law_305 : decode cL_law 305 = .ok (.iadd, 1) := by decide +kernel
theorem dL_law_306 : decode cL_law 306 = .ok (.iaload, 1) := by decide +kernel
theorem dL_law_307 : decode cL_law 307 = .ok (.aload_n 0, 1) := by decide +kernel
theorem dL_law_308 : decode cL_law 308 = .ok (.iload_n 3, 1) := by decide +kernel
theorem dL_law_309 : decode cL_law 309 = .ok (.iconst 2, 1) := by decide +kernel
theorem dL_law_310 : decode cL_law 310 = .ok (.iadd, 1) := by decide +kernel
theorem dL_law_311 : decode cL_law 311 = .ok (.iaload, 1) := by decide +kernel
theorem dL_law_312 : decode cL_law 312 = .ok (.invokevirtual 41, 3) := by decide +kernel
theorem dL_law_315 : decode cL_law 315 = .ok (.if_icmp .eq 696, 3) := by decide +kernel
theorem dL_law_318 : decode cL_law 318 = .ok (.iconst 0, 1) := by decide +kernel
theorem dL_law_319 : decode cL_law 319 = .ok (.ireturn, 1) := by decide +kernel
theorem dL_law_320 : decode cL_law 320 = .ok (.aload_n 1, 1) := by decide +kernel
theorem dL_law_321 : decode cL_law 321 = .ok (.invokevirtual 42, 3) := by decide +kernel
theorem dL_law_324 : decode cL_law 324 = .ok (.aload_n 2, 1) := by decide +kernel
theorem dL_law_325 : decode cL_law 325 = .ok (.invokevirtual 45, 3) := by decide +kernel
theorem dL_law_328 : decode cL_law 328 = .ok (.if_icmp .eq 683, 3) := by decide +kernel
theorem dL_law_331 : decode cL_law 331 = .ok (.iconst 0, 1) := by decide +kernel
theorem dL_law_332 : decode cL_law 332 = .ok (.ireturn, 1) := by decide +kernel
theorem dL_law_333 : decode cL_law 333 = .ok (.aload_n 1, 1) := by decide +kernel
theorem dL_law_334 : decode cL_law 334 = .ok (.aload_n 0, 1) := by decide +kernel
theorem dL_law_335 : decode cL_law 335 = .ok (.iload_n 3, 1) := by decide +kernel
theorem dL_law_336 : decode cL_law 336 = .ok (.iconst 1, 1) := by decide +kernel
theorem dL_law_337 : decode cL_law 337 = .ok (.iadd, 1) := by decide +kernel
theorem dL_law_338 : decode cL_law 338 = .ok (.iaload, 1) := by decide +kernel
theorem dL_law_339 : decode cL_law 339 = .ok (.invokevirtual 46, 3) := by decide +kernel
theorem dL_law_342 : decode cL_law 342 = .ok (.aload_n 2, 1) := by decide +kernel
theorem dL_law_343 : decode cL_law 343 = .ok (.aload_n 0, 1) := by decide +kernel
theorem dL_law_344 : decode cL_law 344 = .ok (.iload_n 3, 1) := by decide +kernel
theorem dL_law_345 : decode cL_law 345 = .ok (.iconst 1, 1) := by decide +kernel
theorem dL_law_346 : decode cL_law 346 = .ok (.iadd, 1) := by decide +kernel
theorem dL_law_347 : decode cL_law 347 = .ok (.iaload, 1) := by decide +kernel
theorem dL_law_348 : decode cL_law 348 = .ok (.invokevirtual 50, 3) := by decide +kernel
theorem dL_law_351 : decode cL_law 351 = .ok (.if_icmp .eq 660, 3) := by decide +kernel
theorem dL_law_354 : decode cL_law 354 = .ok (.iconst 0, 1) := by decide +kernel
theorem dL_law_355 : decode cL_law 355 = .ok (.ireturn, 1) := by decide +kernel
theorem dL_law_356 : decode cL_law 356 = .ok (.aload_n 1, 1) := by decide +kernel
theorem dL_law_357 : decode cL_law 357 = .ok (.aload_n 0, 1) := by decide +kernel
theorem dL_law_358 : decode cL_law 358 = .ok (.iload_n 3, 1) := by decide +kernel
theorem dL_law_359 : decode cL_law 359 = .ok (.iconst 1, 1) := by decide +kernel
theorem dL_law_360 : decode cL_law 360 = .ok (.iadd, 1) := by decide +kernel
theorem dL_law_361 : decode cL_law 361 = .ok (.iaload, 1) := by decide +kernel
theorem dL_law_362 : decode cL_law 362 = .ok (.invokevirtual 51, 3) := by decide +kernel
theorem dL_law_365 : decode cL_law 365 = .ok (.aload_n 2, 1) := by decide +kernel
theorem dL_law_366 : decode cL_law 366 = .ok (.aload_n 0, 1) := by decide +kernel
theorem dL_law_367 : decode cL_law 367 = .ok (.iload_n 3, 1) := by decide +kernel
theorem dL_law_368 : decode cL_law 368 = .ok (.iconst 1, 1) := by decide +kernel
theorem dL_law_369 : decode cL_law 369 = .ok (.iadd, 1) := by decide +kernel
theorem dL_law_370 : decode cL_law 370 = .ok (.iaload, 1) := by decide +kernel
theorem dL_law_371 : decode cL_law 371 = .ok (.invokevirtual 54, 3) := by decide +kernel
theorem dL_law_374 : decode cL_law 374 = .ok (.if_icmp .eq 637, 3) := by decide +kernel
theorem dL_law_377 : decode cL_law 377 = .ok (.iconst 0, 1) := by decide +kernel
theorem dL_law_378 : decode cL_law 378 = .ok (.ireturn, 1) := by decide +kernel
theorem dL_law_379 : decode cL_law 379 = .ok (.aload_n 1, 1) := by decide +kernel
theorem dL_law_380 : decode cL_law 380 = .ok (.invokevirtual 55, 3) := by decide +kernel
theorem dL_law_383 : decode cL_law 383 = .ok (.aload_n 2, 1) := by decide +kernel
theorem dL_law_384 : decode cL_law 384 = .ok (.invokevirtual 58, 3) := by decide +kernel
theorem dL_law_387 : decode cL_law 387 = .ok (.if_icmp .eq 624, 3) := by decide +kernel
theorem dL_law_390 : decode cL_law 390 = .ok (.iconst 0, 1) := by decide +kernel
theorem dL_law_391 : decode cL_law 391 = .ok (.ireturn, 1) := by decide +kernel
theorem dL_law_392 : decode cL_law 392 = .ok (.aload_n 1, 1) := by decide +kernel
theorem dL_law_393 : decode cL_law 393 = .ok (.aload_n 0, 1) := by decide +kernel
theorem dL_law_394 : decode cL_law 394 = .ok (.iload_n 3, 1) := by decide +kernel
theorem dL_law_395 : decode cL_law 395 = .ok (.iconst 1, 1) := by decide +kernel
theorem dL_law_396 : decode cL_law 396 = .ok (.iadd, 1) := by decide +kernel
theorem dL_law_397 : decode cL_law 397 = .ok (.iaload, 1) := by decide +kernel
theorem dL_law_398 : decode cL_law 398 = .ok (.aload_n 0, 1) := by decide +kernel
theorem dL_law_399 : decode cL_law 399 = .ok (.iload_n 3, 1) := by decide +kernel
theorem dL_law_400 : decode cL_law 400 = .ok (.iconst 2, 1) := by decide +kernel
theorem dL_law_401 : decode cL_law 401 = .ok (.iadd, 1) := by decide +kernel
theorem dL_law_402 : decode cL_law 402 = .ok (.iaload, 1) := by decide +kernel
theorem dL_law_403 : decode cL_law 403 = .ok (.invokevirtual 59, 3) := by decide +kernel
theorem dL_law_406 : decode cL_law 406 = .ok (.aload_n 2, 1) := by decide +kernel
theorem dL_law_407 : decode cL_law 407 = .ok (.aload_n 0, 1) := by decide +kernel
theorem dL_law_408 : decode cL_law 408 = .ok (.iload_n 3, 1) := by decide +kernel
theorem dL_law_409 : decode cL_law 409 = .ok (.iconst 1, 1) := by decide +kernel
theorem dL_law_410 : decode cL_law 410 = .ok (.iadd, 1) := by decide +kernel
theorem dL_law_411 : decode cL_law 411 = .ok (.iaload, 1) := by decide +kernel
theorem dL_law_412 : decode cL_law 412 = .ok (.aload_n 0, 1) := by decide +kernel
theorem dL_law_413 : decode cL_law 413 = .ok (.iload_n 3, 1) := by decide +kernel
theorem dL_law_414 : decode cL_law 414 = .ok (.iconst 2, 1) := by decide +kernel
theorem dL_law_415 : decode cL_law 415 = .ok (.iadd, 1) := by decide +kernel
theorem dL_law_416 : decode cL_law 416 = .ok (.iaload, 1) := by decide +kernel
theorem dL_law_417 : decode cL_law 417 = .ok (.invokevirtual 62, 3) := by decide +kernel
theorem dL_law_420 : decode cL_law 420 = .ok (.if_icmp .eq 591, 3) := by decide +kernel
theorem dL_law_423 : decode cL_law 423 = .ok (.iconst 0, 1) := by decide +kernel
theorem dL_law_424 : decode cL_law 424 = .ok (.ireturn, 1) := by decide +kernel
theorem dL_law_425 : decode cL_law 425 = .ok (.aload_n 1, 1) := by decide +kernel
theorem dL_law_426 : decode cL_law 426 = .ok (.aload_n 0, 1) := by decide +kernel
theorem dL_law_427 : decode cL_law 427 = .ok (.iload_n 3, 1) := by decide +kernel
theorem dL_law_428 : decode cL_law 428 = .ok (.iconst 1, 1) := by decide +kernel
theorem dL_law_429 : decode cL_law 429 = .ok (.iadd, 1) := by decide +kernel
theorem dL_law_430 : decode cL_law 430 = .ok (.iaload, 1) := by decide +kernel
theorem dL_law_431 : decode cL_law 431 = .ok (.aload_n 0, 1) := by decide +kernel
theorem dL_law_432 : decode cL_law 432 = .ok (.iload_n 3, 1) := by decide +kernel
theorem dL_law_433 : decode cL_law 433 = .ok (.iconst 2, 1) := by decide +kernel
theorem dL_law_434 : decode cL_law 434 = .ok (.iadd, 1) := by decide +kernel
theorem dL_law_435 : decode cL_law 435 = .ok (.iaload, 1) := by decide +kernel
theorem dL_law_436 : decode cL_law 436 = .ok (.aload_n 0, 1) := by decide +kernel
theorem dL_law_437 : decode cL_law 437 = .ok (.iload_n 3, 1) := by decide +kernel
theorem dL_law_438 : decode cL_law 438 = .ok (.iconst 3, 1) := by decide +kernel
theorem dL_law_439 : decode cL_law 439 = .ok (.iadd, 1) := by decide +kernel
theorem dL_law_440 : decode cL_law 440 = .ok (.iaload, 1) := by decide +kernel
theorem dL_law_441 : decode cL_law 441 = .ok (.invokevirtual 63, 3) := by decide +kernel
theorem dL_law_444 : decode cL_law 444 = .ok (.aload_n 2, 1) := by decide +kernel
theorem dL_law_445 : decode cL_law 445 = .ok (.aload_n 0, 1) := by decide +kernel
theorem dL_law_446 : decode cL_law 446 = .ok (.iload_n 3, 1) := by decide +kernel
theorem dL_law_447 : decode cL_law 447 = .ok (.iconst 1, 1) := by decide +kernel
theorem dL_law_448 : decode cL_law 448 = .ok (.iadd, 1) := by decide +kernel
theorem dL_law_449 : decode cL_law 449 = .ok (.iaload, 1) := by decide +kernel
theorem dL_law_450 : decode cL_law 450 = .ok (.aload_n 0, 1) := by decide +kernel
theorem dL_law_451 : decode cL_law 451 = .ok (.iload_n 3, 1) := by decide +kernel
theorem dL_law_452 : decode cL_law 452 = .ok (.iconst 2, 1) := by decide +kernel
theorem dL_law_453 : decode cL_law 453 = .ok (.iadd, 1) := by decide +kernel
theorem dL_law_454 : decode cL_law 454 = .ok (.iaload, 1) := by decide +kernel
theorem dL_law_455 : decode cL_law 455 = .ok (.aload_n 0, 1) := by decide +kernel
theorem dL_law_456 : decode cL_law 456 = .ok (.iload_n 3, 1) := by decide +kernel
theorem dL_law_457 : decode cL_law 457 = .ok (.iconst 3, 1) := by decide +kernel
theorem dL_law_458 : decode cL_law 458 = .ok (.iadd, 1) := by decide +kernel
theorem dL_law_459 : decode cL_law 459 = .ok (.iaload, 1) := by decide +kernel
theorem dL_law_460 : decode cL_law 460 = .ok (.invokevirtual 67, 3) := by decide +kernel
theorem dL_law_463 : decode cL_law 463 = .ok (.if_icmp .eq 548, 3) := by decide +kernel
theorem dL_law_466 : decode cL_law 466 = .ok (.iconst 0, 1) := by decide +kernel
theorem dL_law_467 : decode cL_law 467 = .ok (.ireturn, 1) := by decide +kernel
theorem dL_law_468 : decode cL_law 468 = .ok (.aload_n 1, 1) := by decide +kernel
theorem dL_law_469 : decode cL_law 469 = .ok (.aload_n 0, 1) := by decide +kernel
theorem dL_law_470 : decode cL_law 470 = .ok (.iload_n 3, 1) := by decide +kernel
theorem dL_law_471 : decode cL_law 471 = .ok (.iconst 1, 1) := by decide +kernel
theorem dL_law_472 : decode cL_law 472 = .ok (.iadd, 1) := by decide +kernel
theorem dL_law_473 : decode cL_law 473 = .ok (.iaload, 1) := by decide +kernel
theorem dL_law_474 : decode cL_law 474 = .ok (.aload_n 0, 1) := by decide +kernel
theorem dL_law_475 : decode cL_law 475 = .ok (.iload_n 3, 1) := by decide +kernel
theorem dL_law_476 : decode cL_law 476 = .ok (.iconst 2, 1) := by decide +kernel
theorem dL_law_477 : decode cL_law 477 = .ok (.iadd, 1) := by decide +kernel
theorem dL_law_478 : decode cL_law 478 = .ok (.iaload, 1) := by decide +kernel
theorem dL_law_479 : decode cL_law 479 = .ok (.aload_n 0, 1) := by decide +kernel
theorem dL_law_480 : decode cL_law 480 = .ok (.iload_n 3, 1) := by decide +kernel
theorem dL_law_481 : decode cL_law 481 = .ok (.iconst 3, 1) := by decide +kernel
theorem dL_law_482 : decode cL_law 482 = .ok (.iadd, 1) := by decide +kernel
theorem dL_law_483 : decode cL_law 483 = .ok (.iaload, 1) := by decide +kernel
theorem dL_law_484 : decode cL_law 484 = .ok (.invokevirtual 68, 3) := by decide +kernel
theorem dL_law_487 : decode cL_law 487 = .ok (.aload_n 2, 1) := by decide +kernel
theorem dL_law_488 : decode cL_law 488 = .ok (.aload_n 0, 1) := by decide +kernel
theorem dL_law_489 : decode cL_law 489 = .ok (.iload_n 3, 1) := by decide +kernel
theorem dL_law_490 : decode cL_law 490 = .ok (.iconst 1, 1) := by decide +kernel
theorem dL_law_491 : decode cL_law 491 = .ok (.iadd, 1) := by decide +kernel
theorem dL_law_492 : decode cL_law 492 = .ok (.iaload, 1) := by decide +kernel
theorem dL_law_493 : decode cL_law 493 = .ok (.aload_n 0, 1) := by decide +kernel
theorem dL_law_494 : decode cL_law 494 = .ok (.iload_n 3, 1) := by decide +kernel
theorem dL_law_495 : decode cL_law 495 = .ok (.iconst 2, 1) := by decide +kernel
theorem dL_law_496 : decode cL_law 496 = .ok (.iadd, 1) := by decide +kernel
theorem dL_law_497 : decode cL_law 497 = .ok (.iaload, 1) := by decide +kernel
theorem dL_law_498 : decode cL_law 498 = .ok (.aload_n 0, 1) := by decide +kernel
theorem dL_law_499 : decode cL_law 499 = .ok (.iload_n 3, 1) := by decide +kernel
theorem dL_law_500 : decode cL_law 500 = .ok (.iconst 3, 1) := by decide +kernel
theorem dL_law_501 : decode cL_law 501 = .ok (.iadd, 1) := by decide +kernel
theorem dL_law_502 : decode cL_law 502 = .ok (.iaload, 1) := by decide +kernel
theorem dL_law_503 : decode cL_law 503 = .ok (.invokevirtual 71, 3) := by decide +kernel
theorem dL_law_506 : decode cL_law 506 = .ok (.if_icmp .eq 505, 3) := by decide +kernel
theorem dL_law_509 : decode cL_law 509 = .ok (.iconst 0, 1) := by decide +kernel
theorem dL_law_510 : decode cL_law 510 = .ok (.ireturn, 1) := by decide +kernel
theorem dL_law_511 : decode cL_law 511 = .ok (.aload_n 1, 1) := by decide +kernel
theorem dL_law_512 : decode cL_law 512 = .ok (.aload_n 0, 1) := by decide +kernel
theorem dL_law_513 : decode cL_law 513 = .ok (.iload_n 3, 1) := by decide +kernel
theorem dL_law_514 : decode cL_law 514 = .ok (.iconst 1, 1) := by decide +kernel
theorem dL_law_515 : decode cL_law 515 = .ok (.iadd, 1) := by decide +kernel
theorem dL_law_516 : decode cL_law 516 = .ok (.iaload, 1) := by decide +kernel
theorem dL_law_517 : decode cL_law 517 = .ok (.aload_n 0, 1) := by decide +kernel
theorem dL_law_518 : decode cL_law 518 = .ok (.iload_n 3, 1) := by decide +kernel
theorem dL_law_519 : decode cL_law 519 = .ok (.iconst 2, 1) := by decide +kernel
theorem dL_law_520 : decode cL_law 520 = .ok (.iadd, 1) := by decide +kernel
theorem dL_law_521 : decode cL_law 521 = .ok (.iaload, 1) := by decide +kernel
theorem dL_law_522 : decode cL_law 522 = .ok (.aload_n 0, 1) := by decide +kernel
theorem dL_law_523 : decode cL_law 523 = .ok (.iload_n 3, 1) := by decide +kernel
theorem dL_law_524 : decode cL_law 524 = .ok (.iconst 3, 1) := by decide +kernel
theorem dL_law_525 : decode cL_law 525 = .ok (.iadd, 1) := by decide +kernel
theorem dL_law_526 : decode cL_law 526 = .ok (.iaload, 1) := by decide +kernel
theorem dL_law_527 : decode cL_law 527 = .ok (.aload_n 0, 1) := by decide +kernel
theorem dL_law_528 : decode cL_law 528 = .ok (.iload_n 3, 1) := by decide +kernel
theorem dL_law_529 : decode cL_law 529 = .ok (.iconst 4, 1) := by decide +kernel
theorem dL_law_530 : decode cL_law 530 = .ok (.iadd, 1) := by decide +kernel
theorem dL_law_531 : decode cL_law 531 = .ok (.iaload, 1) := by decide +kernel
theorem dL_law_532 : decode cL_law 532 = .ok (.invokevirtual 72, 3) := by decide +kernel
theorem dL_law_535 : decode cL_law 535 = .ok (.aload_n 2, 1) := by decide +kernel
theorem dL_law_536 : decode cL_law 536 = .ok (.aload_n 0, 1) := by decide +kernel
theorem dL_law_537 : decode cL_law 537 = .ok (.iload_n 3, 1) := by decide +kernel
theorem dL_law_538 : decode cL_law 538 = .ok (.iconst 1, 1) := by decide +kernel
theorem dL_law_539 : decode cL_law 539 = .ok (.iadd, 1) := by decide +kernel
theorem dL_law_540 : decode cL_law 540 = .ok (.iaload, 1) := by decide +kernel
theorem dL_law_541 : decode cL_law 541 = .ok (.aload_n 0, 1) := by decide +kernel
theorem dL_law_542 : decode cL_law 542 = .ok (.iload_n 3, 1) := by decide +kernel
theorem dL_law_543 : decode cL_law 543 = .ok (.iconst 2, 1) := by decide +kernel
theorem dL_law_544 : decode cL_law 544 = .ok (.iadd, 1) := by decide +kernel
theorem dL_law_545 : decode cL_law 545 = .ok (.iaload, 1) := by decide +kernel
theorem dL_law_546 : decode cL_law 546 = .ok (.aload_n 0, 1) := by decide +kernel
theorem dL_law_547 : decode cL_law 547 = .ok (.iload_n 3, 1) := by decide +kernel
theorem dL_law_548 : decode cL_law 548 = .ok (.iconst 3, 1) := by decide +kernel
theorem dL_law_549 : decode cL_law 549 = .ok (.iadd, 1) := by decide +kernel
theorem dL_law_550 : decode cL_law 550 = .ok (.iaload, 1) := by decide +kernel
theorem dL_law_551 : decode cL_law 551 = .ok (.aload_n 0, 1) := by decide +kernel
theorem dL_law_552 : decode cL_law 552 = .ok (.iload_n 3, 1) := by decide +kernel
theorem dL_law_553 : decode cL_law 553 = .ok (.iconst 4, 1) := by decide +kernel
theorem dL_law_554 : decode cL_law 554 = .ok (.iadd, 1) := by decide +kernel
theorem dL_law_555 : decode cL_law 555 = .ok (.iaload, 1) := by decide +kernel
theorem dL_law_556 : decode cL_law 556 = .ok (.invokevirtual 76, 3) := by decide +kernel
theorem dL_law_559 : decode cL_law 559 = .ok (.if_icmp .eq 452, 3) := by decide +kernel
theorem dL_law_562 : decode cL_law 562 = .ok (.iconst 0, 1) := by decide +kernel
theorem dL_law_563 : decode cL_law 563 = .ok (.ireturn, 1) := by decide +kernel
theorem dL_law_564 : decode cL_law 564 = .ok (.aload_n 1, 1) := by decide +kernel
theorem dL_law_565 : decode cL_law 565 = .ok (.aload_n 0, 1) := by decide +kernel
theorem dL_law_566 : decode cL_law 566 = .ok (.iload_n 3, 1) := by decide +kernel
theorem dL_law_567 : decode cL_law 567 = .ok (.iconst 1, 1) := by decide +kernel
theorem dL_law_568 : decode cL_law 568 = .ok (.iadd, 1) := by decide +kernel
theorem dL_law_569 : decode cL_law 569 = .ok (.iaload, 1) := by decide +kernel
theorem dL_law_570 : decode cL_law 570 = .ok (.aload_n 0, 1) := by decide +kernel
theorem dL_law_571 : decode cL_law 571 = .ok (.iload_n 3, 1) := by decide +kernel
theorem dL_law_572 : decode cL_law 572 = .ok (.iconst 2, 1) := by decide +kernel
theorem dL_law_573 : decode cL_law 573 = .ok (.iadd, 1) := by decide +kernel
theorem dL_law_574 : decode cL_law 574 = .ok (.iaload, 1) := by decide +kernel
theorem dL_law_575 : decode cL_law 575 = .ok (.aload_n 0, 1) := by decide +kernel
theorem dL_law_576 : decode cL_law 576 = .ok (.iload_n 3, 1) := by decide +kernel
theorem dL_law_577 : decode cL_law 577 = .ok (.iconst 3, 1) := by decide +kernel
theorem dL_law_578 : decode cL_law 578 = .ok (.iadd, 1) := by decide +kernel
theorem dL_law_579 : decode cL_law 579 = .ok (.iaload, 1) := by decide +kernel
theorem dL_law_580 : decode cL_law 580 = .ok (.invokevirtual 77, 3) := by decide +kernel
theorem dL_law_583 : decode cL_law 583 = .ok (.aload_n 2, 1) := by decide +kernel
theorem dL_law_584 : decode cL_law 584 = .ok (.aload_n 0, 1) := by decide +kernel
theorem dL_law_585 : decode cL_law 585 = .ok (.iload_n 3, 1) := by decide +kernel
theorem dL_law_586 : decode cL_law 586 = .ok (.iconst 1, 1) := by decide +kernel
theorem dL_law_587 : decode cL_law 587 = .ok (.iadd, 1) := by decide +kernel
theorem dL_law_588 : decode cL_law 588 = .ok (.iaload, 1) := by decide +kernel
theorem dL_law_589 : decode cL_law 589 = .ok (.aload_n 0, 1) := by decide +kernel
theorem dL_law_590 : decode cL_law 590 = .ok (.iload_n 3, 1) := by decide +kernel
theorem dL_law_591 : decode cL_law 591 = .ok (.iconst 2, 1) := by decide +kernel
theorem dL_law_592 : decode cL_law 592 = .ok (.iadd, 1) := by decide +kernel
theorem dL_law_593 : decode cL_law 593 = .ok (.iaload, 1) := by decide +kernel
theorem dL_law_594 : decode cL_law 594 = .ok (.aload_n 0, 1) := by decide +kernel
theorem dL_law_595 : decode cL_law 595 = .ok (.iload_n 3, 1) := by decide +kernel
theorem dL_law_596 : decode cL_law 596 = .ok (.iconst 3, 1) := by decide +kernel
theorem dL_law_597 : decode cL_law 597 = .ok (.iadd, 1) := by decide +kernel
theorem dL_law_598 : decode cL_law 598 = .ok (.iaload, 1) := by decide +kernel
theorem dL_law_599 : decode cL_law 599 = .ok (.invokevirtual 80, 3) := by decide +kernel
theorem dL_law_602 : decode cL_law 602 = .ok (.if_icmp .eq 409, 3) := by decide +kernel
theorem dL_law_605 : decode cL_law 605 = .ok (.iconst 0, 1) := by decide +kernel
theorem dL_law_606 : decode cL_law 606 = .ok (.ireturn, 1) := by decide +kernel
theorem dL_law_607 : decode cL_law 607 = .ok (.aload_n 1, 1) := by decide +kernel
theorem dL_law_608 : decode cL_law 608 = .ok (.aload_n 0, 1) := by decide +kernel
theorem dL_law_609 : decode cL_law 609 = .ok (.iload_n 3, 1) := by decide +kernel
theorem dL_law_610 : decode cL_law 610 = .ok (.iconst 1, 1) := by decide +kernel
theorem dL_law_611 : decode cL_law 611 = .ok (.iadd, 1) := by decide +kernel
theorem dL_law_612 : decode cL_law 612 = .ok (.iaload, 1) := by decide +kernel
theorem dL_law_613 : decode cL_law 613 = .ok (.aload_n 0, 1) := by decide +kernel
theorem dL_law_614 : decode cL_law 614 = .ok (.iload_n 3, 1) := by decide +kernel
theorem dL_law_615 : decode cL_law 615 = .ok (.iconst 2, 1) := by decide +kernel
theorem dL_law_616 : decode cL_law 616 = .ok (.iadd, 1) := by decide +kernel
theorem dL_law_617 : decode cL_law 617 = .ok (.iaload, 1) := by decide +kernel
theorem dL_law_618 : decode cL_law 618 = .ok (.aload_n 0, 1) := by decide +kernel
theorem dL_law_619 : decode cL_law 619 = .ok (.iload_n 3, 1) := by decide +kernel
theorem dL_law_620 : decode cL_law 620 = .ok (.iconst 3, 1) := by decide +kernel
theorem dL_law_621 : decode cL_law 621 = .ok (.iadd, 1) := by decide +kernel
theorem dL_law_622 : decode cL_law 622 = .ok (.iaload, 1) := by decide +kernel
theorem dL_law_623 : decode cL_law 623 = .ok (.invokevirtual 81, 3) := by decide +kernel
theorem dL_law_626 : decode cL_law 626 = .ok (.aload_n 2, 1) := by decide +kernel
theorem dL_law_627 : decode cL_law 627 = .ok (.aload_n 0, 1) := by decide +kernel
theorem dL_law_628 : decode cL_law 628 = .ok (.iload_n 3, 1) := by decide +kernel
theorem dL_law_629 : decode cL_law 629 = .ok (.iconst 1, 1) := by decide +kernel
theorem dL_law_630 : decode cL_law 630 = .ok (.iadd, 1) := by decide +kernel
theorem dL_law_631 : decode cL_law 631 = .ok (.iaload, 1) := by decide +kernel
theorem dL_law_632 : decode cL_law 632 = .ok (.aload_n 0, 1) := by decide +kernel
theorem dL_law_633 : decode cL_law 633 = .ok (.iload_n 3, 1) := by decide +kernel
theorem dL_law_634 : decode cL_law 634 = .ok (.iconst 2, 1) := by decide +kernel
theorem dL_law_635 : decode cL_law 635 = .ok (.iadd, 1) := by decide +kernel
theorem dL_law_636 : decode cL_law 636 = .ok (.iaload, 1) := by decide +kernel
theorem dL_law_637 : decode cL_law 637 = .ok (.aload_n 0, 1) := by decide +kernel
theorem dL_law_638 : decode cL_law 638 = .ok (.iload_n 3, 1) := by decide +kernel
theorem dL_law_639 : decode cL_law 639 = .ok (.iconst 3, 1) := by decide +kernel
theorem dL_law_640 : decode cL_law 640 = .ok (.iadd, 1) := by decide +kernel
theorem dL_law_641 : decode cL_law 641 = .ok (.iaload, 1) := by decide +kernel
theorem dL_law_642 : decode cL_law 642 = .ok (.invokevirtual 84, 3) := by decide +kernel
theorem dL_law_645 : decode cL_law 645 = .ok (.if_icmp .eq 366, 3) := by decide +kernel
theorem dL_law_648 : decode cL_law 648 = .ok (.iconst 0, 1) := by decide +kernel
theorem dL_law_649 : decode cL_law 649 = .ok (.ireturn, 1) := by decide +kernel
theorem dL_law_650 : decode cL_law 650 = .ok (.aload_n 1, 1) := by decide +kernel
theorem dL_law_651 : decode cL_law 651 = .ok (.aload_n 0, 1) := by decide +kernel
theorem dL_law_652 : decode cL_law 652 = .ok (.iload_n 3, 1) := by decide +kernel
theorem dL_law_653 : decode cL_law 653 = .ok (.iconst 1, 1) := by decide +kernel
theorem dL_law_654 : decode cL_law 654 = .ok (.iadd, 1) := by decide +kernel
theorem dL_law_655 : decode cL_law 655 = .ok (.iaload, 1) := by decide +kernel
theorem dL_law_656 : decode cL_law 656 = .ok (.aload_n 0, 1) := by decide +kernel
theorem dL_law_657 : decode cL_law 657 = .ok (.iload_n 3, 1) := by decide +kernel
theorem dL_law_658 : decode cL_law 658 = .ok (.iconst 2, 1) := by decide +kernel
theorem dL_law_659 : decode cL_law 659 = .ok (.iadd, 1) := by decide +kernel
theorem dL_law_660 : decode cL_law 660 = .ok (.iaload, 1) := by decide +kernel
theorem dL_law_661 : decode cL_law 661 = .ok (.aload_n 0, 1) := by decide +kernel
theorem dL_law_662 : decode cL_law 662 = .ok (.iload_n 3, 1) := by decide +kernel
theorem dL_law_663 : decode cL_law 663 = .ok (.iconst 3, 1) := by decide +kernel
theorem dL_law_664 : decode cL_law 664 = .ok (.iadd, 1) := by decide +kernel
theorem dL_law_665 : decode cL_law 665 = .ok (.iaload, 1) := by decide +kernel
theorem dL_law_666 : decode cL_law 666 = .ok (.aload_n 0, 1) := by decide +kernel
theorem dL_law_667 : decode cL_law 667 = .ok (.iload_n 3, 1) := by decide +kernel
theorem dL_law_668 : decode cL_law 668 = .ok (.iconst 4, 1) := by decide +kernel
theorem dL_law_669 : decode cL_law 669 = .ok (.iadd, 1) := by decide +kernel
theorem dL_law_670 : decode cL_law 670 = .ok (.iaload, 1) := by decide +kernel
theorem dL_law_671 : decode cL_law 671 = .ok (.invokevirtual 85, 3) := by decide +kernel
theorem dL_law_674 : decode cL_law 674 = .ok (.aload_n 2, 1) := by decide +kernel
theorem dL_law_675 : decode cL_law 675 = .ok (.aload_n 0, 1) := by decide +kernel
theorem dL_law_676 : decode cL_law 676 = .ok (.iload_n 3, 1) := by decide +kernel
theorem dL_law_677 : decode cL_law 677 = .ok (.iconst 1, 1) := by decide +kernel
theorem dL_law_678 : decode cL_law 678 = .ok (.iadd, 1) := by decide +kernel
theorem dL_law_679 : decode cL_law 679 = .ok (.iaload, 1) := by decide +kernel
theorem dL_law_680 : decode cL_law 680 = .ok (.aload_n 0, 1) := by decide +kernel
theorem dL_law_681 : decode cL_law 681 = .ok (.iload_n 3, 1) := by decide +kernel
theorem dL_law_682 : decode cL_law 682 = .ok (.iconst 2, 1) := by decide +kernel
theorem dL_law_683 : decode cL_law 683 = .ok (.iadd, 1) := by decide +kernel
theorem dL_law_684 : decode cL_law 684 = .ok (.iaload, 1) := by decide +kernel
theorem dL_law_685 : decode cL_law 685 = .ok (.aload_n 0, 1) := by decide +kernel
theorem dL_law_686 : decode cL_law 686 = .ok (.iload_n 3, 1) := by decide +kernel
theorem dL_law_687 : decode cL_law 687 = .ok (.iconst 3, 1) := by decide +kernel
theorem dL_law_688 : decode cL_law 688 = .ok (.iadd, 1) := by decide +kernel
theorem dL_law_689 : decode cL_law 689 = .ok (.iaload, 1) := by decide +kernel
theorem dL_law_690 : decode cL_law 690 = .ok (.aload_n 0, 1) := by decide +kernel
theorem dL_law_691 : decode cL_law 691 = .ok (.iload_n 3, 1) := by decide +kernel
theorem dL_law_692 : decode cL_law 692 = .ok (.iconst 4, 1) := by decide +kernel
theorem dL_law_693 : decode cL_law 693 = .ok (.iadd, 1) := by decide +kernel
theorem dL_law_694 : decode cL_law 694 = .ok (.iaload, 1) := by decide +kernel
theorem dL_law_695 : decode cL_law 695 = .ok (.invokevirtual 88, 3) := by decide +kernel
theorem dL_law_698 : decode cL_law 698 = .ok (.if_icmp .eq 313, 3) := by decide +kernel
theorem dL_law_701 : decode cL_law 701 = .ok (.iconst 0, 1) := by decide +kernel
theorem dL_law_702 : decode cL_law 702 = .ok (.ireturn, 1) := by decide +kernel
theorem dL_law_703 : decode cL_law 703 = .ok (.aload_n 1, 1) := by decide +kernel
theorem dL_law_704 : decode cL_law 704 = .ok (.aload_n 0, 1) := by decide +kernel
theorem dL_law_705 : decode cL_law 705 = .ok (.iload_n 3, 1) := by decide +kernel
theorem dL_law_706 : decode cL_law 706 = .ok (.iconst 1, 1) := by decide +kernel
theorem dL_law_707 : decode cL_law 707 = .ok (.iadd, 1) := by decide +kernel
theorem dL_law_708 : decode cL_law 708 = .ok (.iaload, 1) := by decide +kernel
theorem dL_law_709 : decode cL_law 709 = .ok (.aload_n 0, 1) := by decide +kernel
theorem dL_law_710 : decode cL_law 710 = .ok (.iload_n 3, 1) := by decide +kernel
theorem dL_law_711 : decode cL_law 711 = .ok (.iconst 2, 1) := by decide +kernel
theorem dL_law_712 : decode cL_law 712 = .ok (.iadd, 1) := by decide +kernel
theorem dL_law_713 : decode cL_law 713 = .ok (.iaload, 1) := by decide +kernel
theorem dL_law_714 : decode cL_law 714 = .ok (.aload_n 0, 1) := by decide +kernel
theorem dL_law_715 : decode cL_law 715 = .ok (.iload_n 3, 1) := by decide +kernel
theorem dL_law_716 : decode cL_law 716 = .ok (.iconst 3, 1) := by decide +kernel
theorem dL_law_717 : decode cL_law 717 = .ok (.iadd, 1) := by decide +kernel
theorem dL_law_718 : decode cL_law 718 = .ok (.iaload, 1) := by decide +kernel
theorem dL_law_719 : decode cL_law 719 = .ok (.aload_n 0, 1) := by decide +kernel
theorem dL_law_720 : decode cL_law 720 = .ok (.iload_n 3, 1) := by decide +kernel
theorem dL_law_721 : decode cL_law 721 = .ok (.iconst 4, 1) := by decide +kernel
theorem dL_law_722 : decode cL_law 722 = .ok (.iadd, 1) := by decide +kernel
theorem dL_law_723 : decode cL_law 723 = .ok (.iaload, 1) := by decide +kernel
theorem dL_law_724 : decode cL_law 724 = .ok (.invokevirtual 89, 3) := by decide +kernel
theorem dL_law_727 : decode cL_law 727 = .ok (.aload_n 2, 1) := by decide +kernel
theorem dL_law_728 : decode cL_law 728 = .ok (.aload_n 0, 1) := by decide +kernel
theorem dL_law_729 : decode cL_law 729 = .ok (.iload_n 3, 1) := by decide +kernel
theorem dL_law_730 : decode cL_law 730 = .ok (.iconst 1, 1) := by decide +kernel
theorem dL_law_731 : decode cL_law 731 = .ok (.iadd, 1) := by decide +kernel
theorem dL_law_732 : decode cL_law 732 = .ok (.iaload, 1) := by decide +kernel
theorem dL_law_733 : decode cL_law 733 = .ok (.aload_n 0, 1) := by decide +kernel
theorem dL_law_734 : decode cL_law 734 = .ok (.iload_n 3, 1) := by decide +kernel
theorem dL_law_735 : decode cL_law 735 = .ok (.iconst 2, 1) := by decide +kernel
theorem dL_law_736 : decode cL_law 736 = .ok (.iadd, 1) := by decide +kernel
theorem dL_law_737 : decode cL_law 737 = .ok (.iaload, 1) := by decide +kernel
theorem dL_law_738 : decode cL_law 738 = .ok (.aload_n 0, 1) := by decide +kernel
theorem dL_law_739 : decode cL_law 739 = .ok (.iload_n 3, 1) := by decide +kernel
theorem dL_law_740 : decode cL_law 740 = .ok (.iconst 3, 1) := by decide +kernel
theorem dL_law_741 : decode cL_law 741 = .ok (.iadd, 1) := by decide +kernel
theorem dL_law_742 : decode cL_law 742 = .ok (.iaload, 1) := by decide +kernel
theorem dL_law_743 : decode cL_law 743 = .ok (.aload_n 0, 1) := by decide +kernel
theorem dL_law_744 : decode cL_law 744 = .ok (.iload_n 3, 1) := by decide +kernel
theorem dL_law_745 : decode cL_law 745 = .ok (.iconst 4, 1) := by decide +kernel
theorem dL_law_746 : decode cL_law 746 = .ok (.iadd, 1) := by decide +kernel
theorem dL_law_747 : decode cL_law 747 = .ok (.iaload, 1) := by decide +kernel
theorem dL_law_748 : decode cL_law 748 = .ok (.invokevirtual 92, 3) := by decide +kernel
theorem dL_law_751 : decode cL_law 751 = .ok (.if_icmp .eq 260, 3) := by decide +kernel
theorem dL_law_754 : decode cL_law 754 = .ok (.iconst 0, 1) := by decide +kernel
theorem dL_law_755 : decode cL_law 755 = .ok (.ireturn, 1) := by decide +kernel
theorem dL_law_756 : decode cL_law 756 = .ok (.aload_n 1, 1) := by decide +kernel
theorem dL_law_757 : decode cL_law 757 = .ok (.aload_n 0, 1) := by decide +kernel
theorem dL_law_758 : decode cL_law 758 = .ok (.iload_n 3, 1) := by decide +kernel
theorem dL_law_759 : decode cL_law 759 = .ok (.iconst 1, 1) := by decide +kernel
theorem dL_law_760 : decode cL_law 760 = .ok (.iadd, 1) := by decide +kernel
theorem dL_law_761 : decode cL_law 761 = .ok (.iaload, 1) := by decide +kernel
theorem dL_law_762 : decode cL_law 762 = .ok (.aload_n 0, 1) := by decide +kernel
theorem dL_law_763 : decode cL_law 763 = .ok (.iload_n 3, 1) := by decide +kernel
theorem dL_law_764 : decode cL_law 764 = .ok (.iconst 2, 1) := by decide +kernel
theorem dL_law_765 : decode cL_law 765 = .ok (.iadd, 1) := by decide +kernel
theorem dL_law_766 : decode cL_law 766 = .ok (.iaload, 1) := by decide +kernel
theorem dL_law_767 : decode cL_law 767 = .ok (.invokevirtual 93, 3) := by decide +kernel
theorem dL_law_770 : decode cL_law 770 = .ok (.aload_n 2, 1) := by decide +kernel
theorem dL_law_771 : decode cL_law 771 = .ok (.aload_n 0, 1) := by decide +kernel
theorem dL_law_772 : decode cL_law 772 = .ok (.iload_n 3, 1) := by decide +kernel
theorem dL_law_773 : decode cL_law 773 = .ok (.iconst 1, 1) := by decide +kernel
theorem dL_law_774 : decode cL_law 774 = .ok (.iadd, 1) := by decide +kernel
theorem dL_law_775 : decode cL_law 775 = .ok (.iaload, 1) := by decide +kernel
theorem dL_law_776 : decode cL_law 776 = .ok (.aload_n 0, 1) := by decide +kernel
theorem dL_law_777 : decode cL_law 777 = .ok (.iload_n 3, 1) := by decide +kernel
theorem dL_law_778 : decode cL_law 778 = .ok (.iconst 2, 1) := by decide +kernel
theorem dL_law_779 : decode cL_law 779 = .ok (.iadd, 1) := by decide +kernel
theorem dL_law_780 : decode cL_law 780 = .ok (.iaload, 1) := by decide +kernel
theorem dL_law_781 : decode cL_law 781 = .ok (.invokevirtual 96, 3) := by decide +kernel
theorem dL_law_784 : decode cL_law 784 = .ok (.if_icmp .eq 227, 3) := by decide +kernel
theorem dL_law_787 : decode cL_law 787 = .ok (.iconst 0, 1) := by decide +kernel
theorem dL_law_788 : decode cL_law 788 = .ok (.ireturn, 1) := by decide +kernel
theorem dL_law_789 : decode cL_law 789 = .ok (.aload_n 1, 1) := by decide +kernel
theorem dL_law_790 : decode cL_law 790 = .ok (.aload_n 0, 1) := by decide +kernel
theorem dL_law_791 : decode cL_law 791 = .ok (.iload_n 3, 1) := by decide +kernel
theorem dL_law_792 : decode cL_law 792 = .ok (.iconst 1, 1) := by decide +kernel
theorem dL_law_793 : decode cL_law 793 = .ok (.iadd, 1) := by decide +kernel
theorem dL_law_794 : decode cL_law 794 = .ok (.iaload, 1) := by decide +kernel
theorem dL_law_795 : decode cL_law 795 = .ok (.aload_n 0, 1) := by decide +kernel
theorem dL_law_796 : decode cL_law 796 = .ok (.iload_n 3, 1) := by decide +kernel
theorem dL_law_797 : decode cL_law 797 = .ok (.iconst 2, 1) := by decide +kernel
theorem dL_law_798 : decode cL_law 798 = .ok (.iadd, 1) := by decide +kernel
theorem dL_law_799 : decode cL_law 799 = .ok (.iaload, 1) := by decide +kernel
theorem dL_law_800 : decode cL_law 800 = .ok (.aload_n 0, 1) := by decide +kernel
theorem dL_law_801 : decode cL_law 801 = .ok (.iload_n 3, 1) := by decide +kernel
theorem dL_law_802 : decode cL_law 802 = .ok (.iconst 3, 1) := by decide +kernel
theorem dL_law_803 : decode cL_law 803 = .ok (.iadd, 1) := by decide +kernel
theorem dL_law_804 : decode cL_law 804 = .ok (.iaload, 1) := by decide +kernel
theorem dL_law_805 : decode cL_law 805 = .ok (.aload_n 0, 1) := by decide +kernel
theorem dL_law_806 : decode cL_law 806 = .ok (.iload_n 3, 1) := by decide +kernel
theorem dL_law_807 : decode cL_law 807 = .ok (.iconst 4, 1) := by decide +kernel
theorem dL_law_808 : decode cL_law 808 = .ok (.iadd, 1) := by decide +kernel
theorem dL_law_809 : decode cL_law 809 = .ok (.iaload, 1) := by decide +kernel
theorem dL_law_810 : decode cL_law 810 = .ok (.aload_n 0, 1) := by decide +kernel
theorem dL_law_811 : decode cL_law 811 = .ok (.iload_n 3, 1) := by decide +kernel
theorem dL_law_812 : decode cL_law 812 = .ok (.iconst 5, 1) := by decide +kernel
theorem dL_law_813 : decode cL_law 813 = .ok (.iadd, 1) := by decide +kernel
theorem dL_law_814 : decode cL_law 814 = .ok (.iaload, 1) := by decide +kernel
theorem dL_law_815 : decode cL_law 815 = .ok (.invokevirtual 97, 3) := by decide +kernel
theorem dL_law_818 : decode cL_law 818 = .ok (.aload_n 2, 1) := by decide +kernel
theorem dL_law_819 : decode cL_law 819 = .ok (.aload_n 0, 1) := by decide +kernel
theorem dL_law_820 : decode cL_law 820 = .ok (.iload_n 3, 1) := by decide +kernel
theorem dL_law_821 : decode cL_law 821 = .ok (.iconst 1, 1) := by decide +kernel
theorem dL_law_822 : decode cL_law 822 = .ok (.iadd, 1) := by decide +kernel
theorem dL_law_823 : decode cL_law 823 = .ok (.iaload, 1) := by decide +kernel
theorem dL_law_824 : decode cL_law 824 = .ok (.aload_n 0, 1) := by decide +kernel
theorem dL_law_825 : decode cL_law 825 = .ok (.iload_n 3, 1) := by decide +kernel
theorem dL_law_826 : decode cL_law 826 = .ok (.iconst 2, 1) := by decide +kernel
theorem dL_law_827 : decode cL_law 827 = .ok (.iadd, 1) := by decide +kernel
theorem dL_law_828 : decode cL_law 828 = .ok (.iaload, 1) := by decide +kernel
theorem dL_law_829 : decode cL_law 829 = .ok (.aload_n 0, 1) := by decide +kernel
theorem dL_law_830 : decode cL_law 830 = .ok (.iload_n 3, 1) := by decide +kernel
theorem dL_law_831 : decode cL_law 831 = .ok (.iconst 3, 1) := by decide +kernel
theorem dL_law_832 : decode cL_law 832 = .ok (.iadd, 1) := by decide +kernel
theorem dL_law_833 : decode cL_law 833 = .ok (.iaload, 1) := by decide +kernel
theorem dL_law_834 : decode cL_law 834 = .ok (.aload_n 0, 1) := by decide +kernel
theorem dL_law_835 : decode cL_law 835 = .ok (.iload_n 3, 1) := by decide +kernel
theorem dL_law_836 : decode cL_law 836 = .ok (.iconst 4, 1) := by decide +kernel
theorem dL_law_837 : decode cL_law 837 = .ok (.iadd, 1) := by decide +kernel
theorem dL_law_838 : decode cL_law 838 = .ok (.iaload, 1) := by decide +kernel
theorem dL_law_839 : decode cL_law 839 = .ok (.aload_n 0, 1) := by decide +kernel
theorem dL_law_840 : decode cL_law 840 = .ok (.iload_n 3, 1) := by decide +kernel
theorem dL_law_841 : decode cL_law 841 = .ok (.iconst 5, 1) := by decide +kernel
theorem dL_law_842 : decode cL_law 842 = .ok (.iadd, 1) := by decide +kernel
theorem dL_law_843 : decode cL_law 843 = .ok (.iaload, 1) := by decide +kernel
theorem dL_law_844 : decode cL_law 844 = .ok (.invokevirtual 101, 3) := by decide +kernel
theorem dL_law_847 : decode cL_law 847 = .ok (.lcmp, 1) := by decide +kernel
theorem dL_law_848 : decode cL_law 848 = .ok (.ifCond .eq 163, 3) := by decide +kernel
theorem dL_law_851 : decode cL_law 851 = .ok (.iconst 0, 1) := by decide +kernel
theorem dL_law_852 : decode cL_law 852 = .ok (.ireturn, 1) := by decide +kernel
theorem dL_law_853 : decode cL_law 853 = .ok (.aload_n 1, 1) := by decide +kernel
theorem dL_law_854 : decode cL_law 854 = .ok (.aload_n 0, 1) := by decide +kernel
theorem dL_law_855 : decode cL_law 855 = .ok (.iload_n 3, 1) := by decide +kernel
theorem dL_law_856 : decode cL_law 856 = .ok (.iconst 1, 1) := by decide +kernel
theorem dL_law_857 : decode cL_law 857 = .ok (.iadd, 1) := by decide +kernel
theorem dL_law_858 : decode cL_law 858 = .ok (.iaload, 1) := by decide +kernel
theorem dL_law_859 : decode cL_law 859 = .ok (.aload_n 0, 1) := by decide +kernel
theorem dL_law_860 : decode cL_law 860 = .ok (.iload_n 3, 1) := by decide +kernel
theorem dL_law_861 : decode cL_law 861 = .ok (.iconst 2, 1) := by decide +kernel
theorem dL_law_862 : decode cL_law 862 = .ok (.iadd, 1) := by decide +kernel
theorem dL_law_863 : decode cL_law 863 = .ok (.iaload, 1) := by decide +kernel
theorem dL_law_864 : decode cL_law 864 = .ok (.invokevirtual 102, 3) := by decide +kernel
theorem dL_law_867 : decode cL_law 867 = .ok (.aload_n 2, 1) := by decide +kernel
theorem dL_law_868 : decode cL_law 868 = .ok (.aload_n 0, 1) := by decide +kernel
theorem dL_law_869 : decode cL_law 869 = .ok (.iload_n 3, 1) := by decide +kernel
theorem dL_law_870 : decode cL_law 870 = .ok (.iconst 1, 1) := by decide +kernel
theorem dL_law_871 : decode cL_law 871 = .ok (.iadd, 1) := by decide +kernel
theorem dL_law_872 : decode cL_law 872 = .ok (.iaload, 1) := by decide +kernel
theorem dL_law_873 : decode cL_law 873 = .ok (.aload_n 0, 1) := by decide +kernel
theorem dL_law_874 : decode cL_law 874 = .ok (.iload_n 3, 1) := by decide +kernel
theorem dL_law_875 : decode cL_law 875 = .ok (.iconst 2, 1) := by decide +kernel
theorem dL_law_876 : decode cL_law 876 = .ok (.iadd, 1) := by decide +kernel
theorem dL_law_877 : decode cL_law 877 = .ok (.iaload, 1) := by decide +kernel
theorem dL_law_878 : decode cL_law 878 = .ok (.invokevirtual 105, 3) := by decide +kernel
theorem dL_law_881 : decode cL_law 881 = .ok (.if_icmp .eq 130, 3) := by decide +kernel
theorem dL_law_884 : decode cL_law 884 = .ok (.iconst 0, 1) := by decide +kernel
theorem dL_law_885 : decode cL_law 885 = .ok (.ireturn, 1) := by decide +kernel
theorem dL_law_886 : decode cL_law 886 = .ok (.aload_n 1, 1) := by decide +kernel
theorem dL_law_887 : decode cL_law 887 = .ok (.aload_n 0, 1) := by decide +kernel
theorem dL_law_888 : decode cL_law 888 = .ok (.iload_n 3, 1) := by decide +kernel
theorem dL_law_889 : decode cL_law 889 = .ok (.iconst 1, 1) := by decide +kernel
theorem dL_law_890 : decode cL_law 890 = .ok (.iadd, 1) := by decide +kernel
theorem dL_law_891 : decode cL_law 891 = .ok (.iaload, 1) := by decide +kernel
theorem dL_law_892 : decode cL_law 892 = .ok (.aload_n 0, 1) := by decide +kernel
theorem dL_law_893 : decode cL_law 893 = .ok (.iload_n 3, 1) := by decide +kernel
theorem dL_law_894 : decode cL_law 894 = .ok (.iconst 2, 1) := by decide +kernel
theorem dL_law_895 : decode cL_law 895 = .ok (.iadd, 1) := by decide +kernel
theorem dL_law_896 : decode cL_law 896 = .ok (.iaload, 1) := by decide +kernel
theorem dL_law_897 : decode cL_law 897 = .ok (.invokevirtual 106, 3) := by decide +kernel
theorem dL_law_900 : decode cL_law 900 = .ok (.aload_n 2, 1) := by decide +kernel
theorem dL_law_901 : decode cL_law 901 = .ok (.aload_n 0, 1) := by decide +kernel
theorem dL_law_902 : decode cL_law 902 = .ok (.iload_n 3, 1) := by decide +kernel
theorem dL_law_903 : decode cL_law 903 = .ok (.iconst 1, 1) := by decide +kernel
theorem dL_law_904 : decode cL_law 904 = .ok (.iadd, 1) := by decide +kernel
theorem dL_law_905 : decode cL_law 905 = .ok (.iaload, 1) := by decide +kernel
theorem dL_law_906 : decode cL_law 906 = .ok (.aload_n 0, 1) := by decide +kernel
theorem dL_law_907 : decode cL_law 907 = .ok (.iload_n 3, 1) := by decide +kernel
theorem dL_law_908 : decode cL_law 908 = .ok (.iconst 2, 1) := by decide +kernel
theorem dL_law_909 : decode cL_law 909 = .ok (.iadd, 1) := by decide +kernel
theorem dL_law_910 : decode cL_law 910 = .ok (.iaload, 1) := by decide +kernel
theorem dL_law_911 : decode cL_law 911 = .ok (.invokevirtual 109, 3) := by decide +kernel
theorem dL_law_914 : decode cL_law 914 = .ok (.if_icmp .eq 97, 3) := by decide +kernel
theorem dL_law_917 : decode cL_law 917 = .ok (.iconst 0, 1) := by decide +kernel
theorem dL_law_918 : decode cL_law 918 = .ok (.ireturn, 1) := by decide +kernel
theorem dL_law_919 : decode cL_law 919 = .ok (.aload_n 1, 1) := by decide +kernel
theorem dL_law_920 : decode cL_law 920 = .ok (.aload_n 0, 1) := by decide +kernel
theorem dL_law_921 : decode cL_law 921 = .ok (.iload_n 3, 1) := by decide +kernel
theorem dL_law_922 : decode cL_law 922 = .ok (.iconst 1, 1) := by decide +kernel
theorem dL_law_923 : decode cL_law 923 = .ok (.iadd, 1) := by decide +kernel
theorem dL_law_924 : decode cL_law 924 = .ok (.iaload, 1) := by decide +kernel
theorem dL_law_925 : decode cL_law 925 = .ok (.aload_n 0, 1) := by decide +kernel
theorem dL_law_926 : decode cL_law 926 = .ok (.iload_n 3, 1) := by decide +kernel
theorem dL_law_927 : decode cL_law 927 = .ok (.iconst 2, 1) := by decide +kernel
theorem dL_law_928 : decode cL_law 928 = .ok (.iadd, 1) := by decide +kernel
theorem dL_law_929 : decode cL_law 929 = .ok (.iaload, 1) := by decide +kernel
theorem dL_law_930 : decode cL_law 930 = .ok (.aload_n 0, 1) := by decide +kernel
theorem dL_law_931 : decode cL_law 931 = .ok (.iload_n 3, 1) := by decide +kernel
theorem dL_law_932 : decode cL_law 932 = .ok (.iconst 3, 1) := by decide +kernel
theorem dL_law_933 : decode cL_law 933 = .ok (.iadd, 1) := by decide +kernel
theorem dL_law_934 : decode cL_law 934 = .ok (.iaload, 1) := by decide +kernel
theorem dL_law_935 : decode cL_law 935 = .ok (.invokevirtual 110, 3) := by decide +kernel
theorem dL_law_938 : decode cL_law 938 = .ok (.aload_n 2, 1) := by decide +kernel
theorem dL_law_939 : decode cL_law 939 = .ok (.aload_n 0, 1) := by decide +kernel
theorem dL_law_940 : decode cL_law 940 = .ok (.iload_n 3, 1) := by decide +kernel
theorem dL_law_941 : decode cL_law 941 = .ok (.iconst 1, 1) := by decide +kernel
theorem dL_law_942 : decode cL_law 942 = .ok (.iadd, 1) := by decide +kernel
theorem dL_law_943 : decode cL_law 943 = .ok (.iaload, 1) := by decide +kernel
theorem dL_law_944 : decode cL_law 944 = .ok (.aload_n 0, 1) := by decide +kernel
theorem dL_law_945 : decode cL_law 945 = .ok (.iload_n 3, 1) := by decide +kernel
theorem dL_law_946 : decode cL_law 946 = .ok (.iconst 2, 1) := by decide +kernel
theorem dL_law_947 : decode cL_law 947 = .ok (.iadd, 1) := by decide +kernel
theorem dL_law_948 : decode cL_law 948 = .ok (.iaload, 1) := by decide +kernel
theorem dL_law_949 : decode cL_law 949 = .ok (.aload_n 0, 1) := by decide +kernel
theorem dL_law_950 : decode cL_law 950 = .ok (.iload_n 3, 1) := by decide +kernel
theorem dL_law_951 : decode cL_law 951 = .ok (.iconst 3, 1) := by decide +kernel
theorem dL_law_952 : decode cL_law 952 = .ok (.iadd, 1) := by decide +kernel
theorem dL_law_953 : decode cL_law 953 = .ok (.iaload, 1) := by decide +kernel
theorem dL_law_954 : decode cL_law 954 = .ok (.invokevirtual 113, 3) := by decide +kernel
theorem dL_law_957 : decode cL_law 957 = .ok (.if_icmp .eq 54, 3) := by decide +kernel
theorem dL_law_960 : decode cL_law 960 = .ok (.iconst 0, 1) := by decide +kernel
theorem dL_law_961 : decode cL_law 961 = .ok (.ireturn, 1) := by decide +kernel
theorem dL_law_962 : decode cL_law 962 = .ok (.aload_n 1, 1) := by decide +kernel
theorem dL_law_963 : decode cL_law 963 = .ok (.invokevirtual 114, 3) := by decide +kernel
theorem dL_law_966 : decode cL_law 966 = .ok (.aload_n 2, 1) := by decide +kernel
theorem dL_law_967 : decode cL_law 967 = .ok (.invokevirtual 117, 3) := by decide +kernel
theorem dL_law_970 : decode cL_law 970 = .ok (.if_icmp .eq 41, 3) := by decide +kernel
theorem dL_law_973 : decode cL_law 973 = .ok (.iconst 0, 1) := by decide +kernel
theorem dL_law_974 : decode cL_law 974 = .ok (.ireturn, 1) := by decide +kernel
theorem dL_law_975 : decode cL_law 975 = .ok (.aload_n 1, 1) := by decide +kernel
theorem dL_law_976 : decode cL_law 976 = .ok (.invokevirtual 118, 3) := by decide +kernel
theorem dL_law_979 : decode cL_law 979 = .ok (.aload_n 2, 1) := by decide +kernel
theorem dL_law_980 : decode cL_law 980 = .ok (.invokevirtual 121, 3) := by decide +kernel
theorem dL_law_983 : decode cL_law 983 = .ok (.if_icmp .eq 28, 3) := by decide +kernel
theorem dL_law_986 : decode cL_law 986 = .ok (.iconst 0, 1) := by decide +kernel
theorem dL_law_987 : decode cL_law 987 = .ok (.ireturn, 1) := by decide +kernel
theorem dL_law_988 : decode cL_law 988 = .ok (.aload_n 1, 1) := by decide +kernel
theorem dL_law_989 : decode cL_law 989 = .ok (.aload_n 0, 1) := by decide +kernel
theorem dL_law_990 : decode cL_law 990 = .ok (.iload_n 3, 1) := by decide +kernel
theorem dL_law_991 : decode cL_law 991 = .ok (.iconst 1, 1) := by decide +kernel
theorem dL_law_992 : decode cL_law 992 = .ok (.iadd, 1) := by decide +kernel
theorem dL_law_993 : decode cL_law 993 = .ok (.iaload, 1) := by decide +kernel
theorem dL_law_994 : decode cL_law 994 = .ok (.invokevirtual 122, 3) := by decide +kernel
theorem dL_law_997 : decode cL_law 997 = .ok (.aload_n 2, 1) := by decide +kernel
theorem dL_law_998 : decode cL_law 998 = .ok (.aload_n 0, 1) := by decide +kernel
theorem dL_law_999 : decode cL_law 999 = .ok (.iload_n 3, 1) := by decide +kernel
theorem dL_law_1000 : decode cL_law 1000 = .ok (.iconst 1, 1) := by decide +kernel
theorem dL_law_1001 : decode cL_law 1001 = .ok (.iadd, 1) := by decide +kernel
theorem dL_law_1002 : decode cL_law 1002 = .ok (.iaload, 1) := by decide +kernel
theorem dL_law_1003 : decode cL_law 1003 = .ok (.invokevirtual 125, 3) := by decide +kernel
theorem dL_law_1006 : decode cL_law 1006 = .ok (.if_icmp .eq 5, 3) := by decide +kernel
theorem dL_law_1009 : decode cL_law 1009 = .ok (.iconst 0, 1) := by decide +kernel
theorem dL_law_1010 : decode cL_law 1010 = .ok (.ireturn, 1) := by decide +kernel
theorem dL_law_1011 : decode cL_law 1011 = .ok (.iinc 3 6, 3) := by decide +kernel
theorem dL_law_1014 : decode cL_law 1014 = .ok (.goto (-996), 3) := by decide +kernel
theorem dL_law_1017 : decode cL_law 1017 = .ok (.iconst 1, 1) := by decide +kernel
theorem dL_law_1018 : decode cL_law 1018 = .ok (.ireturn, 1) := by decide +kernel
end
section
/-! ===== numbers: ints and longs as whole numbers ===== -/
def iI (z : Int) : Int32 := Int32.ofInt z
def lI (z : Int) : Int64 := Int64.ofInt z
abbrev nV (n : Nat) : Value := .int (iI (n : Int))
abbrev zV (z : Int) : Value := .int (iI z)
abbrev mV (n : Nat) : Value := .long (lI (n : Int))
abbrev jV (z : Int) : Value := .long (lI z)
def bI (P : Prop) [Decidable P] : Int32 := if P then 1 else 0
abbrev bV (P : Prop) [Decidable P] : Value := .int (bI P)
abbrev rg (z : Int) : Prop := -2147483648 ≤ z ∧ z < 2147483648
abbrev rl (z : Int) : Prop := -9223372036854775808 ≤ z ∧ z < 9223372036854775808
theorem iI_toInt {z : Int} (h : rg z) : (iI z).toInt = z := by
  unfold iI; rw [Int32.toInt_ofInt]; show z.bmod 4294967296 = z; rw [Int.bmod_eq_of_le (by omega) (by omega)]
theorem lI_toInt {z : Int} (h : rl z) : (lI z).toInt = z := by
  unfold lI; rw [Int64.toInt_ofInt]; show z.bmod 18446744073709551616 = z; rw [Int.bmod_eq_of_le (by omega) (by omega)]
theorem iI_of (x : Int32) : iI x.toInt = x := Int32.ofInt_toInt x
theorem lI_of (x : Int64) : lI x.toInt = x := Int64.ofInt_toInt x
theorem iI_rg (x : Int32) : rg x.toInt := by
  have h1 := Int32.le_toInt x
  have h2 := Int32.toInt_lt x
  constructor <;> omega
theorem lI_rl (x : Int64) : rl x.toInt := by
  have h1 := Int64.le_toInt x
  have h2 := Int64.toInt_lt x
  constructor <;> omega
theorem iI_nI (n : Nat) : iI (n : Int) = nI n := by
  unfold iI nI
  exact Int32.ofInt_eq_ofNat
theorem lI_lN (n : Nat) : lI (n : Int) = lN n := by
  unfold lI lN
  exact Int64.ofInt_eq_ofNat
theorem iI_add (a b : Int) : iI a + iI b = iI (a + b) := (Int32.ofInt_add a b).symm
theorem iI_mul (a b : Int) : iI a * iI b = iI (a * b) := (Int32.ofInt_mul a b).symm
theorem iI_neg (a : Int) : - iI a = iI (-a) := (Int32.ofInt_neg a).symm
theorem iI_sub (a b : Int) : iI a - iI b = iI (a - b) := by
  rw [Int32.sub_eq_add_neg, iI_neg, iI_add, Int.sub_eq_add_neg]
theorem lI_add (a b : Int) : lI a + lI b = lI (a + b) := (Int64.ofInt_add a b).symm
theorem lI_mul (a b : Int) : lI a * lI b = lI (a * b) := (Int64.ofInt_mul a b).symm
theorem lI_neg (a : Int) : - lI a = lI (-a) := (Int64.ofInt_neg a).symm
theorem lI_sub (a b : Int) : lI a - lI b = lI (a - b) := by
  rw [Int64.sub_eq_add_neg, lI_neg, lI_add, Int.sub_eq_add_neg]
theorem iI_inj {a b : Int} (ha : rg a) (hb : rg b) : iI a = iI b ↔ a = b := by
  rw [← Int32.toInt_inj, iI_toInt ha, iI_toInt hb]
theorem lI_inj {a b : Int} (ha : rl a) (hb : rl b) : lI a = lI b ↔ a = b := by
  rw [← Int64.toInt_inj, lI_toInt ha, lI_toInt hb]
theorem iI_lt {a b : Int} (ha : rg a) (hb : rg b) : iI a < iI b ↔ a < b := by
  rw [Int32.lt_iff_toInt_lt, iI_toInt ha, iI_toInt hb]
theorem iI_le {a b : Int} (ha : rg a) (hb : rg b) : iI a ≤ iI b ↔ a ≤ b := by
  rw [Int32.le_iff_toInt_le, iI_toInt ha, iI_toInt hb]
theorem lI_lt {a b : Int} (ha : rl a) (hb : rl b) : lI a < lI b ↔ a < b := by
  rw [Int64.lt_iff_toInt_lt, lI_toInt ha, lI_toInt hb]
theorem lI_le {a b : Int} (ha : rl a) (hb : rl b) : lI a ≤ lI b ↔ a ≤ b := by
  rw [Int64.le_iff_toInt_le, lI_toInt ha, lI_toInt hb]
theorem iI_0 : iI 0 = 0 := rfl
theorem lI_0 : lI 0 = 0 := rfl
theorem iI_div {a b : Nat} (ha : a < 2147483648) (h0 : 0 < b) (hb : b < 2147483648) : iI (a : Int) / iI (b : Int) = iI ((a / b : Nat) : Int) := by
  rw [iI_nI, iI_nI, iI_nI]; exact pk_div (by omega) h0 (by omega)
theorem iI_rem {a b : Nat} (ha : a < 2147483648) (h0 : 0 < b) (hb : b < 2147483648) : iI (a : Int) - iI (a : Int) / iI (b : Int) * iI (b : Int) = iI ((a % b : Nat) : Int) := by
  rw [iI_nI, iI_nI, iI_nI]; exact pk_rem (by omega) h0 (by omega)
theorem lI_div {a b : Nat} (ha : a < 9223372036854775808) (h0 : 0 < b) (hb : b < 9223372036854775808) : lI (a : Int) / lI (b : Int) = lI ((a / b : Nat) : Int) := by
  rw [lI_lN, lI_lN, lI_lN]; exact pk_lDiv (by omega) h0 (by omega)
theorem lI_rem {a b : Nat} (ha : a < 9223372036854775808) (h0 : 0 < b) (hb : b < 9223372036854775808) : lI (a : Int) - lI (a : Int) / lI (b : Int) * lI (b : Int) = lI ((a % b : Nat) : Int) := by
  rw [lI_lN, lI_lN, lI_lN]; exact pk_lRem (by omega) h0 (by omega)
theorem iI_l {z : Int} (h : rg z) : (iI z).toInt64 = lI z := Int64.toInt_inj.mp (by rw [Int32.toInt_toInt64, iI_toInt h, lI_toInt (by constructor <;> omega)])
theorem lI_i (z : Int) : (lI z).toInt32 = iI z := by
  apply Int32.toInt_inj.mp
  unfold lI iI
  rw [Int64.toInt_toInt32, Int64.toInt_ofInt, Int32.toInt_ofInt]
  exact Int.bmod_bmod_of_dvd (by decide)
theorem iI_cl {n : Nat} (h : n < 2147483648) : (iI (n : Int)).toNatClampNeg = n := by
  rw [iI_nI]; exact nI_clamp (by omega)
theorem iI_in {n N : Nat} (h : n < N) (hN : N < 2147483648) : vp_in (iI (n : Int)) N := by
  rw [iI_nI]; exact vp_in_nI h (by omega)
theorem iI_cast {a b : Int} (h : a = b) : iI a = iI b := congrArg iI h
theorem bI_0 {P : Prop} [Decidable P] : bI P = 0 ↔ ¬ P := by
  unfold bI; by_cases h : P <;> simp [h]
theorem bI_t {P : Prop} [Decidable P] (h : P) : bI P = 1 := if_pos h
theorem bI_f {P : Prop} [Decidable P] (h : ¬ P) : bI P = 0 := if_neg h
theorem bI_nar {P : Prop} [Decidable P] : narrow .boolean (.int (bI P)) = .int (bI P) := by
  unfold bI; by_cases h : P <;> simp [h] <;> rfl
theorem bI_congr {P Q : Prop} [Decidable P] [Decidable Q] (h : P ↔ Q) : bI P = bI Q := by
  unfold bI; by_cases hp : P
  · rw [if_pos hp, if_pos (h.mp hp)]
  · rw [if_neg hp, if_neg (fun q => hp (h.mpr q))]
/-! ===== contents of arrays ===== -/
abbrev GG : Type := va_G × ClassId × ClassId × ClassId × ClassId
abbrev tyG (g : GG) : List (ClassId × FieldType) := [(g.2.1, .byte), (g.2.2.1, .int), (g.2.2.2.1, .long), (g.2.2.2.2, .boolean)]
def upN (F : Nat → Nat) (k v : Nat) : Nat → Nat := fun j => if j = k then v else F j
def upZ (F : Nat → Int) (k : Nat) (v : Int) : Nat → Int := fun j => if j = k then v else F j
theorem upN_s {F : Nat → Nat} {k v : Nat} : upN F k v k = v := if_pos rfl
theorem upN_n {F : Nat → Nat} {k v j : Nat} (h : j ≠ k) : upN F k v j = F j := if_neg h
theorem upZ_s {F : Nat → Int} {k : Nat} {v : Int} : upZ F k v k = v := if_pos rfl
theorem upZ_n {F : Nat → Int} {k j : Nat} {v : Int} (h : j ≠ k) : upZ F k v j = F j := if_neg h
abbrev cN (g : GG) (n : Nat) (F : Nat → Nat) : va_E := .inl (g.2.2.1, n, .inl (fun j => iI ((F j : Nat) : Int)))
abbrev cZ (g : GG) (n : Nat) (F : Nat → Int) : va_E := .inl (g.2.2.1, n, .inl (fun j => iI (F j)))
abbrev cB (g : GG) (n : Nat) (u : Nat → Nat) : va_E := .inl (g.2.1, n, .inl (fun j => sb_b (u j)))
abbrev cO (g : GG) (n : Nat) (F : Nat → Bool) : va_E := .inl (g.2.2.2.2, n, .inl (fun j => bI (F j = true)))
abbrev cL (g : GG) (n : Nat) (F : Nat → Int64) : va_E := .inl (g.2.2.2.1, n, .inr (.inl F))
theorem upd_N {F : Nat → Nat} {k v : Nat} : upd (fun j => iI ((F j : Nat) : Int)) k (iI (v : Int)) = fun j => iI ((upN F k v j : Nat) : Int) := by
  funext j; unfold upd upN; by_cases h : j = k <;> simp [h]
theorem upd_Z {F : Nat → Int} {k : Nat} {v : Int} : upd (fun j => iI (F j)) k (iI v) = fun j => iI (upZ F k v j) := by
  funext j; unfold upd upZ; by_cases h : j = k <;> simp [h]
/-! ===== what a method's world holds beside its cells ===== -/
def NW (U : State) : Prop := ∀ q ∈ NL, va_Nw (.methodLinkNest q.1 q.2.1 q.2.2.1 q.2.2.2) U
def KW (g : GG) (U : State) : Prop := va_K g.1 vwCl (tyG g) U ∧ NW U
theorem KW.pass {g : GG} {s U : State} (h : KW g s) (hW : s.WarmedH U.vm) : KW g U := ⟨va_K.moved hW.alike h.1, fun q hq => va_Nw.warmM hW (h.2 q hq)⟩
theorem KW.blind {g : GG} {U : State} {f : JFrame} {mk : MethodId} {a : Array Value} (h : KW g U) : KW g (U.calling f mk a) :=
  ⟨va_K.moved (u := U) (U := U.calling f mk a) (Vm.Alike.refl U.vm) h.1, fun q hq => va_Nw.same rfl rfl (h.2 q hq)⟩
/-- rooms by level -/
def rD (d : Nat) : Room := { frames := d, cells := 0, slots := 0, locals := 40 * d }
/-- what a method's start gives -/
def CT (p : Program) (s : State) (m : MethodId) (args : Array Value) (meth : Method) (c : Code) (cc : ByteArray) (own : String) (nL : Nat) : Prop :=
  p.tables.exec = Jvm.exec ∧ c.code = cc ∧ c.maxLocals = nL ∧ s.vm.findClass own = some m.cls ∧ (∀ w ∈ TB, w.before args s = true) ∧ meth.locks = false
/-- a contract that only reads: an int comes back -/
def ROi (g : GG) (l : Launch) (y : MethodName) (cc : ByteArray) (nL : Nat) (ret : Option FieldType) (d : Nat) (ws : va_W) (As : List Value) (post : Int32 → Prop) : Prop :=
  Met l y (.code y cc nL ret :: TB) (rD d) (va_Pc As (fun U => KW g U ∧ va_P g.1 vwCl ws U.heap)) (vp_Si post) 0 0 (fun _ => False)
def ROl (g : GG) (l : Launch) (y : MethodName) (cc : ByteArray) (nL : Nat) (ret : Option FieldType) (d : Nat) (ws : va_W) (As : List Value) (post : Int64 → Prop) : Prop :=
  Met l y (.code y cc nL ret :: TB) (rD d) (va_Pc As (fun U => KW g U ∧ va_P g.1 vwCl ws U.heap)) (vp_Sl post) 0 0 (fun _ => False)
/-- contracts that write their cells -/
def WRi (g : GG) (l : Launch) (y : MethodName) (cc : ByteArray) (nL : Nat) (ret : Option FieldType) (d : Nat) (ws : va_W) (As : List Value) {S : Type} (post : Int32 → S → Prop) (w' : S → va_W) : Prop :=
  ∀ sz : Nat, Met l y (.code y cc nL ret :: TB) (rD d) (va_Pc As (fun U => U.heap.size = sz ∧ KW g U ∧ va_P g.1 vwCl ws U.heap ∧ va_D (fun _ => True) ws)) (va_Qi post (fun u t => va_P g.1 vwCl (w' u) t.heap) (va_A ws sz)) 0 0 (va_A ws sz)
def WRl (g : GG) (l : Launch) (y : MethodName) (cc : ByteArray) (nL : Nat) (ret : Option FieldType) (d : Nat) (ws : va_W) (As : List Value) {S : Type} (post : Int64 → S → Prop) (w' : S → va_W) : Prop :=
  ∀ sz : Nat, Met l y (.code y cc nL ret :: TB) (rD d) (va_Pc As (fun U => U.heap.size = sz ∧ KW g U ∧ va_P g.1 vwCl ws U.heap ∧ va_D (fun _ => True) ws)) (va_Ql post (fun u t => va_P g.1 vwCl (w' u) t.heap) (va_A ws sz)) 0 0 (va_A ws sz)
def WRv (g : GG) (l : Launch) (y : MethodName) (cc : ByteArray) (nL : Nat) (d : Nat) (ws : va_W) (As : List Value) {S : Type} (post : S → Prop) (w' : S → va_W) : Prop :=
  ∀ sz : Nat, Met l y (.code y cc nL none :: TB) (rD d) (va_Pc As (fun U => U.heap.size = sz ∧ KW g U ∧ va_P g.1 vwCl ws U.heap ∧ va_D (fun _ => True) ws)) (va_Qv post (fun u t => va_P g.1 vwCl (w' u) t.heap) (va_A ws sz)) 0 0 (va_A ws sz)
/-- a name that a call can go to -/
def NmOk (y : MethodName) (n : Nat) : Prop := (y.cls ≠ "java/lang/invoke/MethodHandle" ∧ y.cls ≠ "java/lang/invoke/VarHandle") ∧ (parseMethodDescriptor y.desc).map (fun d => d.parameters.length) = some n
theorem rgN {n : Nat} (h : n < 2147483648) : rg (n : Int) := by constructor <;> omega
theorem rlN {n : Nat} (h : n < 9223372036854775808) : rl (n : Int) := by constructor <;> omega
theorem bI_1 {P : Prop} [Decidable P] (h : P) : iI ((1 : Nat) : Int) = bI P := (if_pos h).symm
theorem bI_z {P : Prop} [Decidable P] (h : ¬ P) : iI ((0 : Nat) : Int) = bI P := (if_neg h).symm
theorem nar_01 {n : Nat} (h : n = 0 ∨ n = 1) : narrow .boolean (.int (iI (n : Int))) = .int (iI (n : Int)) := by rcases h with rfl | rfl <;> rfl
end
section
section RW
variable {p : Program} {l : Launch} {e : Env} {R : Room} {s : State} {m : MethodId} {args : Array Value} {below : List Frame} {meth : Method} {c : Code} {H : Heap} {locs : List Loc} {cells slots : Nat} {Q : State → Prop}
variable {cc : ByteArray} {own : String} {nL pc : Nat} {ls : Array Slot} {rest : List Value} {g : GG} {ws : va_W} {A : Nat → Prop}
/-! ===== a method's end ===== -/
theorem ro_ret {post : Int32 → Prop} {v : Int32} (C : CT p s m args meth c cc own nL) (hr : meth.sig.returnType = some .int) (hd : decode cc pc = .ok (.ireturn, 1)) (hp : post v) :
    W p l e R s m args below meth c s.heap [] 0 0 (MQ below (vp_Si post) args s 0 0 (fun _ => False)) (F0 m pc ls [.int v]) :=
  W.iret (Qc := vp_Si post) (free := fun _ => False) C.1 C.2.1 hr (fun t ht _ => ⟨v, rfl, hp, ht⟩) (fun q h => by cases h) hd C.2.2.2.2.2
theorem ro_retZ {post : Int32 → Prop} {v : Int32} (C : CT p s m args meth c cc own nL) (hr : meth.sig.returnType = some .boolean) (hn : narrow .boolean (.int v) = .int v) (hd : decode cc pc = .ok (.ireturn, 1)) (hp : post v) :
    W p l e R s m args below meth c s.heap [] 0 0 (MQ below (vp_Si post) args s 0 0 (fun _ => False)) (F0 m pc ls [.int v]) :=
  W.zret (Qc := vp_Si post) (free := fun _ => False) C.1 C.2.1 hr hn (fun t ht _ => ⟨v, rfl, hp, ht⟩) (fun q h => by cases h) hd C.2.2.2.2.2
theorem ro_retL {post : Int64 → Prop} {v : Int64} (C : CT p s m args meth c cc own nL) (hr : meth.sig.returnType = some .long) (hd : decode cc pc = .ok (.lreturn, 1)) (hp : post v) :
    W p l e R s m args below meth c s.heap [] 0 0 (MQ below (vp_Sl post) args s 0 0 (fun _ => False)) (F0 m pc ls [.long v]) :=
  W.lret (Qc := vp_Sl post) (free := fun _ => False) C.1 C.2.1 hr (fun t ht _ => ⟨v, rfl, hp, ht⟩) (fun q h => by cases h) hd C.2.2.2.2.2
theorem wr_ret {S : Type} {post : Int32 → S → Prop} {w' : S → va_W} {v : Int32} (u : S) (C : CT p s m args meth c cc own nL) (hr : meth.sig.returnType = some .int) (hd : decode cc pc = .ok (.ireturn, 1)) (hS : va_S A s.heap H locs) (hP : va_P g.1 vwCl (w' u) H) (hp : post v u) :
    W p l e R s m args below meth c H locs cells slots (MQ below (va_Qi post (fun u t => va_P g.1 vwCl (w' u) t.heap) A) args s cells slots A) (F0 m pc ls [.int v]) :=
  W.iret (Qc := va_Qi post (fun u t => va_P g.1 vwCl (w' u) t.heap) A) (free := A) C.1 C.2.1 hr (fun t ht _ => ⟨⟨v, u, rfl, hp, by show va_P _ _ _ t.heap; rw [ht]; exact hP⟩, hS.F ht⟩) hS.2.2 hd C.2.2.2.2.2
theorem wr_retZ {S : Type} {post : Int32 → S → Prop} {w' : S → va_W} {v : Int32} (u : S) (C : CT p s m args meth c cc own nL) (hr : meth.sig.returnType = some .boolean) (hn : narrow .boolean (.int v) = .int v) (hd : decode cc pc = .ok (.ireturn, 1)) (hS : va_S A s.heap H locs) (hP : va_P g.1 vwCl (w' u) H) (hp : post v u) :
    W p l e R s m args below meth c H locs cells slots (MQ below (va_Qi post (fun u t => va_P g.1 vwCl (w' u) t.heap) A) args s cells slots A) (F0 m pc ls [.int v]) :=
  W.zret (Qc := va_Qi post (fun u t => va_P g.1 vwCl (w' u) t.heap) A) (free := A) C.1 C.2.1 hr hn (fun t ht _ => ⟨⟨v, u, rfl, hp, by show va_P _ _ _ t.heap; rw [ht]; exact hP⟩, hS.F ht⟩) hS.2.2 hd C.2.2.2.2.2
theorem wr_retL {S : Type} {post : Int64 → S → Prop} {w' : S → va_W} {v : Int64} (u : S) (C : CT p s m args meth c cc own nL) (hr : meth.sig.returnType = some .long) (hd : decode cc pc = .ok (.lreturn, 1)) (hS : va_S A s.heap H locs) (hP : va_P g.1 vwCl (w' u) H) (hp : post v u) :
    W p l e R s m args below meth c H locs cells slots (MQ below (va_Ql post (fun u t => va_P g.1 vwCl (w' u) t.heap) A) args s cells slots A) (F0 m pc ls [.long v]) :=
  W.lret (Qc := va_Ql post (fun u t => va_P g.1 vwCl (w' u) t.heap) A) (free := A) C.1 C.2.1 hr (fun t ht _ => ⟨⟨v, u, rfl, hp, by show va_P _ _ _ t.heap; rw [ht]; exact hP⟩, hS.F ht⟩) hS.2.2 hd C.2.2.2.2.2
theorem wr_retV {S : Type} {post : S → Prop} {w' : S → va_W} (u : S) (C : CT p s m args meth c cc own nL) (hr : meth.sig.returnType = none) (hd : decode cc pc = .ok (.return_, 1)) (hS : va_S A s.heap H locs) (hP : va_P g.1 vwCl (w' u) H) (hp : post u) :
    W p l e R s m args below meth c H locs cells slots (MQ below (va_Qv post (fun u t => va_P g.1 vwCl (w' u) t.heap) A) args s cells slots A) (F0 m pc ls []) :=
  W.vret (Qc := va_Qv post (fun u t => va_P g.1 vwCl (w' u) t.heap) A) (free := A) C.1 C.2.1 hr (fun t ht _ => ⟨⟨u, rfl, hp, by show va_P _ _ _ t.heap; rw [ht]; exact hP⟩, hS.F ht⟩) hS.2.2 hd C.2.2.2.2.2
end RW
/-! ===== a method's start ===== -/
theorem ro_startI {g : GG} {l : Launch} {y : MethodName} {cc : ByteArray} {nL : Nat} {d : Nat} {ws : va_W} {As : List Value} {post : Int32 → Prop} (hy : plainName y.cls = true) (hn : (lg_sl As).length ≤ nL)
    (body : ∀ (p : Program) (e : Env) (s : State) (m : MethodId) (args : Array Value) (below : List Frame) (meth : Method) (c : Code) (Q : State → Prop) (ls : Array Slot), CT p s m args meth c cc y.cls nL → KW g s → va_P g.1 vwCl ws s.heap → (∀ {pc : Nat} {ls : Array Slot} {v : Int32}, decode cc pc = .ok (.ireturn, 1) → post v → W p l e (rD d) s m args below meth c s.heap [] 0 0 Q (F0 m pc ls [.int v])) → lv_has ls nL (lv_args 0 As) →
      W p l e (rD d) s m args below meth c s.heap [] 0 0 Q (F0 m 0 ls [])) : ROi g l y cc nL (some .int) d ws As post := by
  refine Met.ofW (cc := cc) (maxL := nL) (ret := some .int) hy rfl ?_
  intro p e s m args below meth c s₁ B hml hv
  obtain ⟨rfl, hK, hP⟩ := hv
  have hts := atoms_spec (ws := .code y cc nL (some .int) :: TB) B.pre
  have hl := lv_entry As (n := nL) hn
  rw [lg_entry_eq]
  have C : CT p s m As.toArray meth c cc y.cls nL := ⟨B.exec, B.bytes, hml, findClass_of_methodNamed B.named, fun w h => hts w (List.mem_cons_of_mem _ h), B.notSynchronized⟩
  exact body p e s m As.toArray below meth c _ _ C hK hP (fun hd hp => ro_ret C B.returns hd hp) hl
theorem ro_startZ {g : GG} {l : Launch} {y : MethodName} {cc : ByteArray} {nL : Nat} {d : Nat} {ws : va_W} {As : List Value} {post : Int32 → Prop} (hy : plainName y.cls = true) (hn : (lg_sl As).length ≤ nL)
    (body : ∀ (p : Program) (e : Env) (s : State) (m : MethodId) (args : Array Value) (below : List Frame) (meth : Method) (c : Code) (Q : State → Prop) (ls : Array Slot), CT p s m args meth c cc y.cls nL → KW g s → va_P g.1 vwCl ws s.heap → (∀ {pc : Nat} {ls : Array Slot} {v : Int32}, decode cc pc = .ok (.ireturn, 1) → narrow .boolean (.int v) = .int v → post v → W p l e (rD d) s m args below meth c s.heap [] 0 0 Q (F0 m pc ls [.int v])) → lv_has ls nL (lv_args 0 As) →
      W p l e (rD d) s m args below meth c s.heap [] 0 0 Q (F0 m 0 ls [])) : ROi g l y cc nL (some .boolean) d ws As post := by
  refine Met.ofW (cc := cc) (maxL := nL) (ret := some .boolean) hy rfl ?_
  intro p e s m args below meth c s₁ B hml hv
  obtain ⟨rfl, hK, hP⟩ := hv
  have hts := atoms_spec (ws := .code y cc nL (some .boolean) :: TB) B.pre
  have hl := lv_entry As (n := nL) hn
  rw [lg_entry_eq]
  have C : CT p s m As.toArray meth c cc y.cls nL := ⟨B.exec, B.bytes, hml, findClass_of_methodNamed B.named, fun w h => hts w (List.mem_cons_of_mem _ h), B.notSynchronized⟩
  exact body p e s m As.toArray below meth c _ _ C hK hP (fun hd hn hp => ro_retZ C B.returns hn hd hp) hl
theorem ro_startL {g : GG} {l : Launch} {y : MethodName} {cc : ByteArray} {nL : Nat} {d : Nat} {ws : va_W} {As : List Value} {post : Int64 → Prop} (hy : plainName y.cls = true) (hn : (lg_sl As).length ≤ nL)
    (body : ∀ (p : Program) (e : Env) (s : State) (m : MethodId) (args : Array Value) (below : List Frame) (meth : Method) (c : Code) (Q : State → Prop) (ls : Array Slot), CT p s m args meth c cc y.cls nL → KW g s → va_P g.1 vwCl ws s.heap → (∀ {pc : Nat} {ls : Array Slot} {v : Int64}, decode cc pc = .ok (.lreturn, 1) → post v → W p l e (rD d) s m args below meth c s.heap [] 0 0 Q (F0 m pc ls [.long v])) → lv_has ls nL (lv_args 0 As) →
      W p l e (rD d) s m args below meth c s.heap [] 0 0 Q (F0 m 0 ls [])) : ROl g l y cc nL (some .long) d ws As post := by
  refine Met.ofW (cc := cc) (maxL := nL) (ret := some .long) hy rfl ?_
  intro p e s m args below meth c s₁ B hml hv
  obtain ⟨rfl, hK, hP⟩ := hv
  have hts := atoms_spec (ws := .code y cc nL (some .long) :: TB) B.pre
  have hl := lv_entry As (n := nL) hn
  rw [lg_entry_eq]
  have C : CT p s m As.toArray meth c cc y.cls nL := ⟨B.exec, B.bytes, hml, findClass_of_methodNamed B.named, fun w h => hts w (List.mem_cons_of_mem _ h), B.notSynchronized⟩
  exact body p e s m As.toArray below meth c _ _ C hK hP (fun hd hp => ro_retL C B.returns hd hp) hl
theorem wr_startI {g : GG} {l : Launch} {y : MethodName} {cc : ByteArray} {nL : Nat} {d : Nat} {ws : va_W} {As : List Value} {S : Type} {post : Int32 → S → Prop} {w' : S → va_W} (hy : plainName y.cls = true) (hn : (lg_sl As).length ≤ nL)
    (body : ∀ (p : Program) (e : Env) (s : State) (m : MethodId) (args : Array Value) (below : List Frame) (meth : Method) (c : Code) (Q : State → Prop) (A : Nat → Prop) (ls : Array Slot), CT p s m args meth c cc y.cls nL → KW g s → (∀ q, s.heap.size ≤ q → A q) → (∀ {pc : Nat} {ls : Array Slot} {H : Heap} {locs : List Loc} {v : Int32} (u : S), decode cc pc = .ok (.ireturn, 1) → va_S A s.heap H locs → va_P g.1 vwCl (w' u) H → post v u → W p l e (rD d) s m args below meth c H locs 0 0 Q (F0 m pc ls [.int v])) → va_P g.1 vwCl ws s.heap → va_D A ws → va_S A s.heap s.heap [] → lv_has ls nL (lv_args 0 As) →
      W p l e (rD d) s m args below meth c s.heap [] 0 0 Q (F0 m 0 ls [])) : WRi g l y cc nL (some .int) d ws As post w' := by
  intro sz
  refine Met.ofW (cc := cc) (maxL := nL) (ret := (some .int)) hy rfl ?_
  intro p e s m args below meth c s₁ B hml hv
  obtain ⟨rfl, hsz, hK, hP, hD⟩ := hv
  have hts := atoms_spec (ws := .code y cc nL (some .int) :: TB) B.pre
  have hl := lv_entry As (n := nL) hn
  rw [lg_entry_eq]
  subst hsz
  have C : CT p s m As.toArray meth c cc y.cls nL := ⟨B.exec, B.bytes, hml, findClass_of_methodNamed B.named, fun w h => hts w (List.mem_cons_of_mem _ h), B.notSynchronized⟩
  exact body p e s m As.toArray below meth c _ (va_A ws s.heap.size) _ C hK (fun q h => Or.inr h) (fun u hd hS hP hp => wr_ret u C B.returns hd hS hP hp) hP hD.self va_S.rf hl
theorem wr_startZ {g : GG} {l : Launch} {y : MethodName} {cc : ByteArray} {nL : Nat} {d : Nat} {ws : va_W} {As : List Value} {S : Type} {post : Int32 → S → Prop} {w' : S → va_W} (hy : plainName y.cls = true) (hn : (lg_sl As).length ≤ nL)
    (body : ∀ (p : Program) (e : Env) (s : State) (m : MethodId) (args : Array Value) (below : List Frame) (meth : Method) (c : Code) (Q : State → Prop) (A : Nat → Prop) (ls : Array Slot), CT p s m args meth c cc y.cls nL → KW g s → (∀ q, s.heap.size ≤ q → A q) → (∀ {pc : Nat} {ls : Array Slot} {H : Heap} {locs : List Loc} {v : Int32} (u : S), decode cc pc = .ok (.ireturn, 1) → narrow .boolean (.int v) = .int v → va_S A s.heap H locs → va_P g.1 vwCl (w' u) H → post v u → W p l e (rD d) s m args below meth c H locs 0 0 Q (F0 m pc ls [.int v])) → va_P g.1 vwCl ws s.heap → va_D A ws → va_S A s.heap s.heap [] → lv_has ls nL (lv_args 0 As) →
      W p l e (rD d) s m args below meth c s.heap [] 0 0 Q (F0 m 0 ls [])) : WRi g l y cc nL (some .boolean) d ws As post w' := by
  intro sz
  refine Met.ofW (cc := cc) (maxL := nL) (ret := (some .boolean)) hy rfl ?_
  intro p e s m args below meth c s₁ B hml hv
  obtain ⟨rfl, hsz, hK, hP, hD⟩ := hv
  have hts := atoms_spec (ws := .code y cc nL (some .boolean) :: TB) B.pre
  have hl := lv_entry As (n := nL) hn
  rw [lg_entry_eq]
  subst hsz
  have C : CT p s m As.toArray meth c cc y.cls nL := ⟨B.exec, B.bytes, hml, findClass_of_methodNamed B.named, fun w h => hts w (List.mem_cons_of_mem _ h), B.notSynchronized⟩
  exact body p e s m As.toArray below meth c _ (va_A ws s.heap.size) _ C hK (fun q h => Or.inr h) (fun u hd hn hS hP hp => wr_retZ u C B.returns hn hd hS hP hp) hP hD.self va_S.rf hl
theorem wr_startL {g : GG} {l : Launch} {y : MethodName} {cc : ByteArray} {nL : Nat} {d : Nat} {ws : va_W} {As : List Value} {S : Type} {post : Int64 → S → Prop} {w' : S → va_W} (hy : plainName y.cls = true) (hn : (lg_sl As).length ≤ nL)
    (body : ∀ (p : Program) (e : Env) (s : State) (m : MethodId) (args : Array Value) (below : List Frame) (meth : Method) (c : Code) (Q : State → Prop) (A : Nat → Prop) (ls : Array Slot), CT p s m args meth c cc y.cls nL → KW g s → (∀ q, s.heap.size ≤ q → A q) → (∀ {pc : Nat} {ls : Array Slot} {H : Heap} {locs : List Loc} {v : Int64} (u : S), decode cc pc = .ok (.lreturn, 1) → va_S A s.heap H locs → va_P g.1 vwCl (w' u) H → post v u → W p l e (rD d) s m args below meth c H locs 0 0 Q (F0 m pc ls [.long v])) → va_P g.1 vwCl ws s.heap → va_D A ws → va_S A s.heap s.heap [] → lv_has ls nL (lv_args 0 As) →
      W p l e (rD d) s m args below meth c s.heap [] 0 0 Q (F0 m 0 ls [])) : WRl g l y cc nL (some .long) d ws As post w' := by
  intro sz
  refine Met.ofW (cc := cc) (maxL := nL) (ret := (some .long)) hy rfl ?_
  intro p e s m args below meth c s₁ B hml hv
  obtain ⟨rfl, hsz, hK, hP, hD⟩ := hv
  have hts := atoms_spec (ws := .code y cc nL (some .long) :: TB) B.pre
  have hl := lv_entry As (n := nL) hn
  rw [lg_entry_eq]
  subst hsz
  have C : CT p s m As.toArray meth c cc y.cls nL := ⟨B.exec, B.bytes, hml, findClass_of_methodNamed B.named, fun w h => hts w (List.mem_cons_of_mem _ h), B.notSynchronized⟩
  exact body p e s m As.toArray below meth c _ (va_A ws s.heap.size) _ C hK (fun q h => Or.inr h) (fun u hd hS hP hp => wr_retL u C B.returns hd hS hP hp) hP hD.self va_S.rf hl
theorem wr_startV {g : GG} {l : Launch} {y : MethodName} {cc : ByteArray} {nL : Nat} {d : Nat} {ws : va_W} {As : List Value} {S : Type} {post : S → Prop} {w' : S → va_W} (hy : plainName y.cls = true) (hn : (lg_sl As).length ≤ nL)
    (body : ∀ (p : Program) (e : Env) (s : State) (m : MethodId) (args : Array Value) (below : List Frame) (meth : Method) (c : Code) (Q : State → Prop) (A : Nat → Prop) (ls : Array Slot), CT p s m args meth c cc y.cls nL → KW g s → (∀ q, s.heap.size ≤ q → A q) → (∀ {pc : Nat} {ls : Array Slot} {H : Heap} {locs : List Loc} (u : S), decode cc pc = .ok (.return_, 1) → va_S A s.heap H locs → va_P g.1 vwCl (w' u) H → post u → W p l e (rD d) s m args below meth c H locs 0 0 Q (F0 m pc ls [])) → va_P g.1 vwCl ws s.heap → va_D A ws → va_S A s.heap s.heap [] → lv_has ls nL (lv_args 0 As) →
      W p l e (rD d) s m args below meth c s.heap [] 0 0 Q (F0 m 0 ls [])) : WRv g l y cc nL d ws As post w' := by
  intro sz
  refine Met.ofW (cc := cc) (maxL := nL) (ret := none) hy rfl ?_
  intro p e s m args below meth c s₁ B hml hv
  obtain ⟨rfl, hsz, hK, hP, hD⟩ := hv
  have hts := atoms_spec (ws := .code y cc nL none :: TB) B.pre
  have hl := lv_entry As (n := nL) hn
  rw [lg_entry_eq]
  subst hsz
  have C : CT p s m As.toArray meth c cc y.cls nL := ⟨B.exec, B.bytes, hml, findClass_of_methodNamed B.named, fun w h => hts w (List.mem_cons_of_mem _ h), B.notSynchronized⟩
  exact body p e s m As.toArray below meth c _ (va_A ws s.heap.size) _ C hK (fun q h => Or.inr h) (fun u hd hS hP hp => wr_retV u C B.returns hd hS hP hp) hP hD.self va_S.rf hl
section RW
variable {p : Program} {l : Launch} {e : Env} {R : Room} {s : State} {m : MethodId} {args : Array Value} {below : List Frame} {meth : Method} {c : Code} {H : Heap} {locs : List Loc} {cells slots : Nat} {Q : State → Prop}
variable {cc : ByteArray} {own : String} {nL pc : Nat} {ls : Array Slot} {rest : List Value} {g : GG} {ws : va_W} {A : Nat → Prop}
/-! ===== constants ===== -/
theorem r_iconst {n : Int} (k : Nat) (C : CT p s m args meth c cc own nL) (hd : decode cc pc = .ok (.iconst n, 1)) (hn : n = (k : Int)) (kk : W p l e R s m args below meth c H locs cells slots Q (F0 m (pc + 1) ls (nV k :: rest))) : W p l e R s m args below meth c H locs cells slots Q (F0 m pc ls rest) :=
  lv_iconst C.1 C.2.1 hd (by rw [hn]; rfl) kk
theorem r_iconstZ {n : Int} (C : CT p s m args meth c cc own nL) (hd : decode cc pc = .ok (.iconst n, 1)) (kk : W p l e R s m args below meth c H locs cells slots Q (F0 m (pc + 1) ls (zV n :: rest))) : W p l e R s m args below meth c H locs cells slots Q (F0 m pc ls rest) :=
  lv_iconst C.1 C.2.1 hd rfl kk
theorem r_bipush {n : Int} (k : Nat) (C : CT p s m args meth c cc own nL) (hd : decode cc pc = .ok (.bipush n, 2)) (hn : (Int8.ofInt n).toInt32 = iI (k : Int)) (kk : W p l e R s m args below meth c H locs cells slots Q (F0 m (pc + 2) ls (nV k :: rest))) : W p l e R s m args below meth c H locs cells slots Q (F0 m pc ls rest) :=
  lv_bipush C.1 C.2.1 hd hn kk
theorem r_bipushZ {n : Int} (C : CT p s m args meth c cc own nL) (hd : decode cc pc = .ok (.bipush n, 2)) (hn : (Int8.ofInt n).toInt32 = iI n) (kk : W p l e R s m args below meth c H locs cells slots Q (F0 m (pc + 2) ls (zV n :: rest))) : W p l e R s m args below meth c H locs cells slots Q (F0 m pc ls rest) :=
  lv_bipush C.1 C.2.1 hd hn kk
theorem r_sipush {n : Int} (k : Nat) (C : CT p s m args meth c cc own nL) (hd : decode cc pc = .ok (.sipush n, 3)) (hn : (Int16.ofInt n).toInt32 = iI (k : Int)) (kk : W p l e R s m args below meth c H locs cells slots Q (F0 m (pc + 3) ls (nV k :: rest))) : W p l e R s m args below meth c H locs cells slots Q (F0 m pc ls rest) :=
  lv_sipush C.1 C.2.1 hd hn kk
theorem r_lconst {n : Fin 2} (k : Nat) (C : CT p s m args meth c cc own nL) (hd : decode cc pc = .ok (.lconst n, 1)) (hn : Int64.ofNat (n : Nat) = lI (k : Int)) (kk : W p l e R s m args below meth c H locs cells slots Q (F0 m (pc + 1) ls (mV k :: rest))) : W p l e R s m args below meth c H locs cells slots Q (F0 m pc ls rest) :=
  lv_lconst C.1 C.2.1 hd hn kk
theorem r_ldc2 {idx : Nat} {v : Int64} (z : Int) (C : CT p s m args meth c cc own nL) (hw : Cond.constantLong own idx v ∈ TB) (hd : decode cc pc = .ok (.ldc2_w idx, 3)) (hn : v = lI z) (kk : W p l e R s m args below meth c H locs cells slots Q (F0 m (pc + 3) ls (jV z :: rest))) : W p l e R s m args below meth c H locs cells slots Q (F0 m pc ls rest) :=
  lv_ldc2 C.1 C.2.1 C.2.2.2.1 (C.2.2.2.2.1 _ hw) hd (by subst hn; exact kk)
theorem r_ldc2N {idx : Nat} {v : Int64} (k : Nat) (C : CT p s m args meth c cc own nL) (hw : Cond.constantLong own idx v ∈ TB) (hd : decode cc pc = .ok (.ldc2_w idx, 3)) (hn : v = lI (k : Int)) (kk : W p l e R s m args below meth c H locs cells slots Q (F0 m (pc + 3) ls (mV k :: rest))) : W p l e R s m args below meth c H locs cells slots Q (F0 m pc ls rest) := r_ldc2 (k : Int) C hw hd hn kk
theorem r_ldcR {idx : Nat} {v : Int32} (C : CT p s m args meth c cc own nL) (hw : Cond.constant own idx v ∈ TB) (hd : decode cc pc = .ok (.ldc idx, 2)) (kk : W p l e R s m args below meth c H locs cells slots Q (F0 m (pc + 2) ls (.int v :: rest))) : W p l e R s m args below meth c H locs cells slots Q (F0 m pc ls rest) :=
  lv_ldc C.1 C.2.1 C.2.2.2.1 (C.2.2.2.2.1 _ hw) hd kk
theorem r_ldcwR {idx : Nat} {v : Int32} (C : CT p s m args meth c cc own nL) (hw : Cond.constant own idx v ∈ TB) (hd : decode cc pc = .ok (.ldc_w idx, 3)) (kk : W p l e R s m args below meth c H locs cells slots Q (F0 m (pc + 3) ls (.int v :: rest))) : W p l e R s m args below meth c H locs cells slots Q (F0 m pc ls rest) :=
  lv_ldcw C.1 C.2.1 C.2.2.2.1 (C.2.2.2.2.1 _ hw) hd kk
theorem r_ldc2R {idx : Nat} {v : Int64} (C : CT p s m args meth c cc own nL) (hw : Cond.constantLong own idx v ∈ TB) (hd : decode cc pc = .ok (.ldc2_w idx, 3)) (kk : W p l e R s m args below meth c H locs cells slots Q (F0 m (pc + 3) ls (.long v :: rest))) : W p l e R s m args below meth c H locs cells slots Q (F0 m pc ls rest) :=
  lv_ldc2 C.1 C.2.1 C.2.2.2.1 (C.2.2.2.2.1 _ hw) hd kk
/-! ===== arithmetic ===== -/
theorem r_addN {a b : Nat} (C : CT p s m args meth c cc own nL) (hd : decode cc pc = .ok (.iadd, 1)) (kk : W p l e R s m args below meth c H locs cells slots Q (F0 m (pc + 1) ls (nV (a + b) :: rest))) : W p l e R s m args below meth c H locs cells slots Q (F0 m pc ls (nV b :: nV a :: rest)) :=
  lv_iadd C.1 C.2.1 hd (by rw [iI_add]; exact kk)
theorem r_addZ {a b : Int} (C : CT p s m args meth c cc own nL) (hd : decode cc pc = .ok (.iadd, 1)) (kk : W p l e R s m args below meth c H locs cells slots Q (F0 m (pc + 1) ls (zV (a + b) :: rest))) : W p l e R s m args below meth c H locs cells slots Q (F0 m pc ls (zV b :: zV a :: rest)) :=
  lv_iadd C.1 C.2.1 hd (by rw [iI_add]; exact kk)
theorem r_subN {a b : Nat} (C : CT p s m args meth c cc own nL) (hd : decode cc pc = .ok (.isub, 1)) (h : b ≤ a) (kk : W p l e R s m args below meth c H locs cells slots Q (F0 m (pc + 1) ls (nV (a - b) :: rest))) : W p l e R s m args below meth c H locs cells slots Q (F0 m pc ls (nV b :: nV a :: rest)) :=
  lv_isub C.1 C.2.1 hd (by rw [iI_sub, show (a : Int) - (b : Int) = ((a - b : Nat) : Int) by omega]; exact kk)
theorem r_subZ {a b : Int} (C : CT p s m args meth c cc own nL) (hd : decode cc pc = .ok (.isub, 1)) (kk : W p l e R s m args below meth c H locs cells slots Q (F0 m (pc + 1) ls (zV (a - b) :: rest))) : W p l e R s m args below meth c H locs cells slots Q (F0 m pc ls (zV b :: zV a :: rest)) :=
  lv_isub C.1 C.2.1 hd (by rw [iI_sub]; exact kk)
theorem r_mulN {a b : Nat} (C : CT p s m args meth c cc own nL) (hd : decode cc pc = .ok (.imul, 1)) (kk : W p l e R s m args below meth c H locs cells slots Q (F0 m (pc + 1) ls (nV (a * b) :: rest))) : W p l e R s m args below meth c H locs cells slots Q (F0 m pc ls (nV b :: nV a :: rest)) :=
  lv_imul C.1 C.2.1 hd (by rw [iI_mul, ← Int.natCast_mul]; exact kk)
theorem r_mulZ {a b : Int} (C : CT p s m args meth c cc own nL) (hd : decode cc pc = .ok (.imul, 1)) (kk : W p l e R s m args below meth c H locs cells slots Q (F0 m (pc + 1) ls (zV (a * b) :: rest))) : W p l e R s m args below meth c H locs cells slots Q (F0 m pc ls (zV b :: zV a :: rest)) :=
  lv_imul C.1 C.2.1 hd (by rw [iI_mul]; exact kk)
theorem iI_ne0 {b : Nat} (h0 : 0 < b) (hb : b < 2147483648) : ¬ iI (b : Int) = 0 := by
  rw [← iI_0, iI_inj (by constructor <;> omega) (by decide)]; omega
theorem lI_ne0 {b : Nat} (h0 : 0 < b) (hb : b < 9223372036854775808) : ¬ lI (b : Int) = 0 := by
  rw [← lI_0, lI_inj (by constructor <;> omega) (by decide)]; omega
theorem r_divN {a b : Nat} (C : CT p s m args meth c cc own nL) (hd : decode cc pc = .ok (.idiv, 1)) (ha : a < 2147483648) (h0 : 0 < b ∧ b < 2147483648) (kk : W p l e R s m args below meth c H locs cells slots Q (F0 m (pc + 1) ls (nV (a / b) :: rest))) : W p l e R s m args below meth c H locs cells slots Q (F0 m pc ls (nV b :: nV a :: rest)) :=
  lv_idiv C.1 C.2.1 hd (iI_ne0 h0.1 h0.2) (by rw [iI_div ha h0.1 h0.2]; exact kk)
theorem r_remN {a b : Nat} (C : CT p s m args meth c cc own nL) (hd : decode cc pc = .ok (.irem, 1)) (ha : a < 2147483648) (h0 : 0 < b ∧ b < 2147483648) (kk : W p l e R s m args below meth c H locs cells slots Q (F0 m (pc + 1) ls (nV (a % b) :: rest))) : W p l e R s m args below meth c H locs cells slots Q (F0 m pc ls (nV b :: nV a :: rest)) :=
  lv_irem C.1 C.2.1 hd (iI_ne0 h0.1 h0.2) (by rw [iI_rem ha h0.1 h0.2]; exact kk)
theorem r_laddN {a b : Nat} (C : CT p s m args meth c cc own nL) (hd : decode cc pc = .ok (.ladd, 1)) (kk : W p l e R s m args below meth c H locs cells slots Q (F0 m (pc + 1) ls (mV (a + b) :: rest))) : W p l e R s m args below meth c H locs cells slots Q (F0 m pc ls (mV b :: mV a :: rest)) :=
  lv_ladd C.1 C.2.1 hd (by rw [lI_add]; exact kk)
theorem r_lsubN {a b : Nat} (C : CT p s m args meth c cc own nL) (hd : decode cc pc = .ok (.lsub, 1)) (h : b ≤ a) (kk : W p l e R s m args below meth c H locs cells slots Q (F0 m (pc + 1) ls (mV (a - b) :: rest))) : W p l e R s m args below meth c H locs cells slots Q (F0 m pc ls (mV b :: mV a :: rest)) :=
  lv_lsub C.1 C.2.1 hd (by rw [lI_sub, show (a : Int) - (b : Int) = ((a - b : Nat) : Int) by omega]; exact kk)
theorem r_lmulN {a b : Nat} (C : CT p s m args meth c cc own nL) (hd : decode cc pc = .ok (.lmul, 1)) (kk : W p l e R s m args below meth c H locs cells slots Q (F0 m (pc + 1) ls (mV (a * b) :: rest))) : W p l e R s m args below meth c H locs cells slots Q (F0 m pc ls (mV b :: mV a :: rest)) :=
  lv_lmul C.1 C.2.1 hd (by rw [lI_mul, ← Int.natCast_mul]; exact kk)
theorem r_ldivN {a b : Nat} (C : CT p s m args meth c cc own nL) (hd : decode cc pc = .ok (.ldiv, 1)) (ha : a < 9223372036854775808) (h0 : 0 < b ∧ b < 9223372036854775808) (kk : W p l e R s m args below meth c H locs cells slots Q (F0 m (pc + 1) ls (mV (a / b) :: rest))) : W p l e R s m args below meth c H locs cells slots Q (F0 m pc ls (mV b :: mV a :: rest)) :=
  lv_ldiv C.1 C.2.1 hd (lI_ne0 h0.1 h0.2) (by rw [lI_div ha h0.1 h0.2]; exact kk)
theorem r_lremN {a b : Nat} (C : CT p s m args meth c cc own nL) (hd : decode cc pc = .ok (.lrem, 1)) (ha : a < 9223372036854775808) (h0 : 0 < b ∧ b < 9223372036854775808) (kk : W p l e R s m args below meth c H locs cells slots Q (F0 m (pc + 1) ls (mV (a % b) :: rest))) : W p l e R s m args below meth c H locs cells slots Q (F0 m pc ls (mV b :: mV a :: rest)) :=
  lv_lrem C.1 C.2.1 hd (lI_ne0 h0.1 h0.2) (by rw [lI_rem ha h0.1 h0.2]; exact kk)
theorem r_i2l {z : Int} (C : CT p s m args meth c cc own nL) (hd : decode cc pc = .ok (.i2l, 1)) (h : rg z) (kk : W p l e R s m args below meth c H locs cells slots Q (F0 m (pc + 1) ls (jV z :: rest))) : W p l e R s m args below meth c H locs cells slots Q (F0 m pc ls (zV z :: rest)) :=
  lv_i2l C.1 C.2.1 hd (iI_l h) kk
theorem r_l2i {z : Int} (C : CT p s m args meth c cc own nL) (hd : decode cc pc = .ok (.l2i, 1)) (kk : W p l e R s m args below meth c H locs cells slots Q (F0 m (pc + 1) ls (zV z :: rest))) : W p l e R s m args below meth c H locs cells slots Q (F0 m pc ls (jV z :: rest)) :=
  lv_l2i C.1 C.2.1 hd (lI_i z) kk
theorem r_incN {i k n : Nat} {x : Nat} {z : Int} {lv : List (Nat × Value)} (lv' : List (Nat × Value)) (C : CT p s m args meth c cc own nL) (hd : decode cc pc = .ok (.iinc i z, 3)) (h : lv_has ls nL lv) (hk : lv[k]? = some (i, nV x)) (hz : z = (n : Int)) (hn : i < nL) (hl : (i, nV (x + n)) :: lv.filter (fun q => !(q.1 == i) && !(q.1 + 1 == i && q.2.category == 2)) = lv')
    (kk : ∀ ls' : Array Slot, lv_has ls' nL lv' → W p l e R s m args below meth c H locs cells slots Q (F0 m (pc + 3) ls' rest)) : W p l e R s m args below meth c H locs cells slots Q (F0 m pc ls rest) :=
  lv_iinc C.1 C.2.1 hd h hk (by rw [hz]; exact iI_add x n) hn hl kk
theorem r_incZ {i k : Nat} {x z : Int} {lv : List (Nat × Value)} (lv' : List (Nat × Value)) (C : CT p s m args meth c cc own nL) (hd : decode cc pc = .ok (.iinc i z, 3)) (h : lv_has ls nL lv) (hk : lv[k]? = some (i, zV x)) (hn : i < nL) (hl : (i, zV (x + z)) :: lv.filter (fun q => !(q.1 == i) && !(q.1 + 1 == i && q.2.category == 2)) = lv')
    (kk : ∀ ls' : Array Slot, lv_has ls' nL lv' → W p l e R s m args below meth c H locs cells slots Q (F0 m (pc + 3) ls' rest)) : W p l e R s m args below meth c H locs cells slots Q (F0 m pc ls rest) :=
  lv_iinc C.1 C.2.1 hd h hk (iI_add x z) hn hl kk
/-- the stack, written otherwise -/
theorem r_st {st st' : List Value} (h : st = st') (kk : W p l e R s m args below meth c H locs cells slots Q (F0 m pc ls st')) : W p l e R s m args below meth c H locs cells slots Q (F0 m pc ls st) := by subst h; exact kk
theorem r_top {v v' : Value} (h : v = v') (kk : W p l e R s m args below meth c H locs cells slots Q (F0 m pc ls (v' :: rest))) : W p l e R s m args below meth c H locs cells slots Q (F0 m pc ls (v :: rest)) := by subst h; exact kk
theorem r_topN {z : Int} (n : Nat) (h : z = (n : Int)) (kk : W p l e R s m args below meth c H locs cells slots Q (F0 m pc ls (nV n :: rest))) : W p l e R s m args below meth c H locs cells slots Q (F0 m pc ls (zV z :: rest)) := by subst h; exact kk
theorem r_topM {z : Int} (n : Nat) (h : z = (n : Int)) (kk : W p l e R s m args below meth c H locs cells slots Q (F0 m pc ls (mV n :: rest))) : W p l e R s m args below meth c H locs cells slots Q (F0 m pc ls (jV z :: rest)) := by subst h; exact kk
theorem r_topR {x : Int32} (z : Int) (h : x = iI z) (kk : W p l e R s m args below meth c H locs cells slots Q (F0 m pc ls (zV z :: rest))) : W p l e R s m args below meth c H locs cells slots Q (F0 m pc ls (.int x :: rest)) := by subst h; exact kk
theorem r_topRN {x : Int32} (n : Nat) (h : x = iI (n : Int)) (kk : W p l e R s m args below meth c H locs cells slots Q (F0 m pc ls (nV n :: rest))) : W p l e R s m args below meth c H locs cells slots Q (F0 m pc ls (.int x :: rest)) := by subst h; exact kk
theorem r_topRL {x : Int64} (n : Nat) (h : x = lI (n : Int)) (kk : W p l e R s m args below meth c H locs cells slots Q (F0 m pc ls (mV n :: rest))) : W p l e R s m args below meth c H locs cells slots Q (F0 m pc ls (.long x :: rest)) := by subst h; exact kk
theorem r_nameN {x : Nat} (kk : ∀ y : Nat, y = x → W p l e R s m args below meth c H locs cells slots Q (F0 m pc ls (nV y :: rest))) : W p l e R s m args below meth c H locs cells slots Q (F0 m pc ls (nV x :: rest)) := kk x rfl
theorem r_nameZ {x : Int} (kk : ∀ y : Int, y = x → W p l e R s m args below meth c H locs cells slots Q (F0 m pc ls (zV y :: rest))) : W p l e R s m args below meth c H locs cells slots Q (F0 m pc ls (zV x :: rest)) := kk x rfl
theorem r_nameR {x : Int32} (kk : ∀ y : Int32, y = x → W p l e R s m args below meth c H locs cells slots Q (F0 m pc ls (.int y :: rest))) : W p l e R s m args below meth c H locs cells slots Q (F0 m pc ls (.int x :: rest)) := kk x rfl
theorem r_nameM {x : Nat} (kk : ∀ y : Nat, y = x → W p l e R s m args below meth c H locs cells slots Q (F0 m pc ls (mV y :: rest))) : W p l e R s m args below meth c H locs cells slots Q (F0 m pc ls (mV x :: rest)) := kk x rfl
theorem r_nameJ {x : Int} (kk : ∀ y : Int, y = x → W p l e R s m args below meth c H locs cells slots Q (F0 m pc ls (jV y :: rest))) : W p l e R s m args below meth c H locs cells slots Q (F0 m pc ls (jV x :: rest)) := kk x rfl
theorem r_nameL {x : Int64} (kk : ∀ y : Int64, y = x → W p l e R s m args below meth c H locs cells slots Q (F0 m pc ls (.long y :: rest))) : W p l e R s m args below meth c H locs cells slots Q (F0 m pc ls (.long x :: rest)) := kk x rfl
/-! ===== branches ===== -/
theorem r_ceq {a b : Int} {off : Int} (tgt : Nat) (C : CT p s m args meth c cc own nL) (hd : decode cc pc = .ok (.if_icmp .eq off, 3)) (ht : (pc : Int) + off = (tgt : Int)) (ha : rg a ∧ rg b) (kt : a = b → W p l e R s m args below meth c H locs cells slots Q (F0 m tgt ls rest)) (kf : a ≠ b → W p l e R s m args below meth c H locs cells slots Q (F0 m (pc + 3) ls rest)) : W p l e R s m args below meth c H locs cells slots Q (F0 m pc ls (zV b :: zV a :: rest)) :=
  lv_icmp_eq C.1 C.2.1 hd ht (fun h => kt (by first | (have h2 := (iI_inj ha.1 ha.2).mp h; omega) | (have h2 := fun q => h ((iI_inj ha.1 ha.2).mpr q); omega) | (have h2 := (iI_lt ha.1 ha.2).mp h; omega) | (have h2 := (iI_lt ha.2 ha.1).mp h; omega) | (have h2 := (iI_le ha.1 ha.2).mp h; omega) | (have h2 := (iI_le ha.2 ha.1).mp h; omega) | (have h2 := mt (iI_inj ha.1 ha.2).mpr h; omega) | (have h2 := mt (iI_lt ha.1 ha.2).mpr h; omega) | (have h2 := mt (iI_lt ha.2 ha.1).mpr h; omega) | (have h2 := mt (iI_le ha.1 ha.2).mpr h; omega) | (have h2 := mt (iI_le ha.2 ha.1).mpr h; omega)))
    (fun h => kf (by first | (have h2 := (iI_inj ha.1 ha.2).mp h; omega) | (have h2 := (iI_inj ha.1 ha.2).mp (Decidable.not_not.mp h); omega) | (have h2 := mt (iI_inj ha.1 ha.2).mpr h; omega) | (have h2 := mt (iI_lt ha.1 ha.2).mpr h; omega) | (have h2 := mt (iI_lt ha.2 ha.1).mpr h; omega) | (have h2 := mt (iI_le ha.1 ha.2).mpr h; omega) | (have h2 := mt (iI_le ha.2 ha.1).mpr h; omega)))
theorem r_ieq {a : Int} {off : Int} (tgt : Nat) (C : CT p s m args meth c cc own nL) (hd : decode cc pc = .ok (.ifCond .eq off, 3)) (ht : (pc : Int) + off = (tgt : Int)) (ha : rg a) (kt : a = 0 → W p l e R s m args below meth c H locs cells slots Q (F0 m tgt ls rest)) (kf : a ≠ 0 → W p l e R s m args below meth c H locs cells slots Q (F0 m (pc + 3) ls rest)) : W p l e R s m args below meth c H locs cells slots Q (F0 m pc ls (zV a :: rest)) := by
  have hz : rg 0 := by decide
  refine lv_if_eq C.1 C.2.1 hd ht (fun h => kt ?_) (fun h => kf ?_) <;> rw [← iI_0] at h
  · first | (have h2 := (iI_inj ha hz).mp h; omega) | (have h2 := (iI_lt ha hz).mp h; omega) | (have h2 := (iI_lt hz ha).mp h; omega) | (have h2 := (iI_le ha hz).mp h; omega) | (have h2 := (iI_le hz ha).mp h; omega) | (have h2 := (iI_inj ha hz).mp (Decidable.not_not.mp h); omega) | (have h2 := mt (iI_inj ha hz).mpr h; omega) | (have h2 := mt (iI_lt ha hz).mpr h; omega) | (have h2 := mt (iI_lt hz ha).mpr h; omega) | (have h2 := mt (iI_le ha hz).mpr h; omega) | (have h2 := mt (iI_le hz ha).mpr h; omega)
  · first | (have h2 := (iI_inj ha hz).mp h; omega) | (have h2 := (iI_lt ha hz).mp h; omega) | (have h2 := (iI_lt hz ha).mp h; omega) | (have h2 := (iI_le ha hz).mp h; omega) | (have h2 := (iI_le hz ha).mp h; omega) | (have h2 := (iI_inj ha hz).mp (Decidable.not_not.mp h); omega) | (have h2 := mt (iI_inj ha hz).mpr h; omega) | (have h2 := mt (iI_lt ha hz).mpr h; omega) | (have h2 := mt (iI_lt hz ha).mpr h; omega) | (have h2 := mt (iI_le ha hz).mpr h; omega) | (have h2 := mt (iI_le hz ha).mpr h; omega)
theorem r_leq {a b : Int} {off : Int} (tgt : Nat) (C : CT p s m args meth c cc own nL) (hd0 : decode cc pc = .ok (.lcmp, 1)) (hd : decode cc (pc + 1) = .ok (.ifCond .eq off, 3)) (ht : ((pc + 1 : Nat) : Int) + off = (tgt : Int)) (ha : rl a ∧ rl b) (kt : a = b → W p l e R s m args below meth c H locs cells slots Q (F0 m tgt ls rest)) (kf : a ≠ b → W p l e R s m args below meth c H locs cells slots Q (F0 m (pc + 1 + 3) ls rest)) : W p l e R s m args below meth c H locs cells slots Q (F0 m pc ls (jV b :: jV a :: rest)) :=
  W.lcmp C.1 C.2.1 hd0 (lv_if_eq C.1 C.2.1 hd ht (fun h => kt (by
      first | (have h2 := (lI_inj ha.1 ha.2).mp ((lg_cmp_eq _ _).mp h); omega) | (have h2 := (lI_lt ha.1 ha.2).mp ((lg_cmp_lt _ _).mp h); omega) | (have h2 := (lI_lt ha.2 ha.1).mp ((lg_cmp_gt _ _).mp h); omega) | (have h2 := (lI_le ha.1 ha.2).mp ((lg_cmp_le _ _).mp h); omega) | (have h2 := (lI_le ha.2 ha.1).mp ((lg_cmp_ge _ _).mp h); omega) | (have h2 := mt (fun q => (lg_cmp_eq _ _).mpr ((lI_inj ha.1 ha.2).mpr q)) h; omega) | (have h2 := mt (fun q => (lg_cmp_lt _ _).mpr ((lI_lt ha.1 ha.2).mpr q)) h; omega) | (have h2 := mt (fun q => (lg_cmp_gt _ _).mpr ((lI_lt ha.2 ha.1).mpr q)) h; omega)))
    (fun h => kf (by
      first | (have h2 := (lI_inj ha.1 ha.2).mp ((lg_cmp_eq _ _).mp h); omega) | (have h2 := (lI_inj ha.1 ha.2).mp ((lg_cmp_eq _ _).mp (Decidable.not_not.mp h)); omega) | (have h2 := mt (fun q => (lg_cmp_eq _ _).mpr ((lI_inj ha.1 ha.2).mpr q)) h; omega) | (have h2 := mt (fun q => (lg_cmp_lt _ _).mpr ((lI_lt ha.1 ha.2).mpr q)) h; omega) | (have h2 := mt (fun q => (lg_cmp_gt _ _).mpr ((lI_lt ha.2 ha.1).mpr q)) h; omega) | (have h2 := mt (fun q => (lg_cmp_le _ _).mpr ((lI_le ha.1 ha.2).mpr q)) h; omega) | (have h2 := mt (fun q => (lg_cmp_ge _ _).mpr ((lI_le ha.2 ha.1).mpr q)) h; omega))))
theorem r_cne {a b : Int} {off : Int} (tgt : Nat) (C : CT p s m args meth c cc own nL) (hd : decode cc pc = .ok (.if_icmp .ne off, 3)) (ht : (pc : Int) + off = (tgt : Int)) (ha : rg a ∧ rg b) (kt : a ≠ b → W p l e R s m args below meth c H locs cells slots Q (F0 m tgt ls rest)) (kf : a = b → W p l e R s m args below meth c H locs cells slots Q (F0 m (pc + 3) ls rest)) : W p l e R s m args below meth c H locs cells slots Q (F0 m pc ls (zV b :: zV a :: rest)) :=
  lv_icmp_ne C.1 C.2.1 hd ht (fun h => kt (by first | (have h2 := (iI_inj ha.1 ha.2).mp h; omega) | (have h2 := fun q => h ((iI_inj ha.1 ha.2).mpr q); omega) | (have h2 := (iI_lt ha.1 ha.2).mp h; omega) | (have h2 := (iI_lt ha.2 ha.1).mp h; omega) | (have h2 := (iI_le ha.1 ha.2).mp h; omega) | (have h2 := (iI_le ha.2 ha.1).mp h; omega) | (have h2 := mt (iI_inj ha.1 ha.2).mpr h; omega) | (have h2 := mt (iI_lt ha.1 ha.2).mpr h; omega) | (have h2 := mt (iI_lt ha.2 ha.1).mpr h; omega) | (have h2 := mt (iI_le ha.1 ha.2).mpr h; omega) | (have h2 := mt (iI_le ha.2 ha.1).mpr h; omega)))
    (fun h => kf (by first | (have h2 := (iI_inj ha.1 ha.2).mp h; omega) | (have h2 := (iI_inj ha.1 ha.2).mp (Decidable.not_not.mp h); omega) | (have h2 := mt (iI_inj ha.1 ha.2).mpr h; omega) | (have h2 := mt (iI_lt ha.1 ha.2).mpr h; omega) | (have h2 := mt (iI_lt ha.2 ha.1).mpr h; omega) | (have h2 := mt (iI_le ha.1 ha.2).mpr h; omega) | (have h2 := mt (iI_le ha.2 ha.1).mpr h; omega)))
theorem r_ine {a : Int} {off : Int} (tgt : Nat) (C : CT p s m args meth c cc own nL) (hd : decode cc pc = .ok (.ifCond .ne off, 3)) (ht : (pc : Int) + off = (tgt : Int)) (ha : rg a) (kt : a ≠ 0 → W p l e R s m args below meth c H locs cells slots Q (F0 m tgt ls rest)) (kf : a = 0 → W p l e R s m args below meth c H locs cells slots Q (F0 m (pc + 3) ls rest)) : W p l e R s m args below meth c H locs cells slots Q (F0 m pc ls (zV a :: rest)) := by
  have hz : rg 0 := by decide
  refine lv_if_ne C.1 C.2.1 hd ht (fun h => kt ?_) (fun h => kf ?_) <;> rw [← iI_0] at h
  · first | (have h2 := (iI_inj ha hz).mp h; omega) | (have h2 := (iI_lt ha hz).mp h; omega) | (have h2 := (iI_lt hz ha).mp h; omega) | (have h2 := (iI_le ha hz).mp h; omega) | (have h2 := (iI_le hz ha).mp h; omega) | (have h2 := (iI_inj ha hz).mp (Decidable.not_not.mp h); omega) | (have h2 := mt (iI_inj ha hz).mpr h; omega) | (have h2 := mt (iI_lt ha hz).mpr h; omega) | (have h2 := mt (iI_lt hz ha).mpr h; omega) | (have h2 := mt (iI_le ha hz).mpr h; omega) | (have h2 := mt (iI_le hz ha).mpr h; omega)
  · first | (have h2 := (iI_inj ha hz).mp h; omega) | (have h2 := (iI_lt ha hz).mp h; omega) | (have h2 := (iI_lt hz ha).mp h; omega) | (have h2 := (iI_le ha hz).mp h; omega) | (have h2 := (iI_le hz ha).mp h; omega) | (have h2 := (iI_inj ha hz).mp (Decidable.not_not.mp h); omega) | (have h2 := mt (iI_inj ha hz).mpr h; omega) | (have h2 := mt (iI_lt ha hz).mpr h; omega) | (have h2 := mt (iI_lt hz ha).mpr h; omega) | (have h2 := mt (iI_le ha hz).mpr h; omega) | (have h2 := mt (iI_le hz ha).mpr h; omega)
theorem r_lne {a b : Int} {off : Int} (tgt : Nat) (C : CT p s m args meth c cc own nL) (hd0 : decode cc pc = .ok (.lcmp, 1)) (hd : decode cc (pc + 1) = .ok (.ifCond .ne off, 3)) (ht : ((pc + 1 : Nat) : Int) + off = (tgt : Int)) (ha : rl a ∧ rl b) (kt : a ≠ b → W p l e R s m args below meth c H locs cells slots Q (F0 m tgt ls rest)) (kf : a = b → W p l e R s m args below meth c H locs cells slots Q (F0 m (pc + 1 + 3) ls rest)) : W p l e R s m args below meth c H locs cells slots Q (F0 m pc ls (jV b :: jV a :: rest)) :=
  W.lcmp C.1 C.2.1 hd0 (lv_if_ne C.1 C.2.1 hd ht (fun h => kt (by
      first | (have h2 := (lI_inj ha.1 ha.2).mp ((lg_cmp_eq _ _).mp h); omega) | (have h2 := (lI_lt ha.1 ha.2).mp ((lg_cmp_lt _ _).mp h); omega) | (have h2 := (lI_lt ha.2 ha.1).mp ((lg_cmp_gt _ _).mp h); omega) | (have h2 := (lI_le ha.1 ha.2).mp ((lg_cmp_le _ _).mp h); omega) | (have h2 := (lI_le ha.2 ha.1).mp ((lg_cmp_ge _ _).mp h); omega) | (have h2 := mt (fun q => (lg_cmp_eq _ _).mpr ((lI_inj ha.1 ha.2).mpr q)) h; omega) | (have h2 := mt (fun q => (lg_cmp_lt _ _).mpr ((lI_lt ha.1 ha.2).mpr q)) h; omega) | (have h2 := mt (fun q => (lg_cmp_gt _ _).mpr ((lI_lt ha.2 ha.1).mpr q)) h; omega)))
    (fun h => kf (by
      first | (have h2 := (lI_inj ha.1 ha.2).mp ((lg_cmp_eq _ _).mp h); omega) | (have h2 := (lI_inj ha.1 ha.2).mp ((lg_cmp_eq _ _).mp (Decidable.not_not.mp h)); omega) | (have h2 := mt (fun q => (lg_cmp_eq _ _).mpr ((lI_inj ha.1 ha.2).mpr q)) h; omega) | (have h2 := mt (fun q => (lg_cmp_lt _ _).mpr ((lI_lt ha.1 ha.2).mpr q)) h; omega) | (have h2 := mt (fun q => (lg_cmp_gt _ _).mpr ((lI_lt ha.2 ha.1).mpr q)) h; omega) | (have h2 := mt (fun q => (lg_cmp_le _ _).mpr ((lI_le ha.1 ha.2).mpr q)) h; omega) | (have h2 := mt (fun q => (lg_cmp_ge _ _).mpr ((lI_le ha.2 ha.1).mpr q)) h; omega))))
theorem r_clt {a b : Int} {off : Int} (tgt : Nat) (C : CT p s m args meth c cc own nL) (hd : decode cc pc = .ok (.if_icmp .lt off, 3)) (ht : (pc : Int) + off = (tgt : Int)) (ha : rg a ∧ rg b) (kt : a < b → W p l e R s m args below meth c H locs cells slots Q (F0 m tgt ls rest)) (kf : b ≤ a → W p l e R s m args below meth c H locs cells slots Q (F0 m (pc + 3) ls rest)) : W p l e R s m args below meth c H locs cells slots Q (F0 m pc ls (zV b :: zV a :: rest)) :=
  lv_icmp_lt C.1 C.2.1 hd ht (fun h => kt (by first | (have h2 := (iI_inj ha.1 ha.2).mp h; omega) | (have h2 := fun q => h ((iI_inj ha.1 ha.2).mpr q); omega) | (have h2 := (iI_lt ha.1 ha.2).mp h; omega) | (have h2 := (iI_lt ha.2 ha.1).mp h; omega) | (have h2 := (iI_le ha.1 ha.2).mp h; omega) | (have h2 := (iI_le ha.2 ha.1).mp h; omega) | (have h2 := mt (iI_inj ha.1 ha.2).mpr h; omega) | (have h2 := mt (iI_lt ha.1 ha.2).mpr h; omega) | (have h2 := mt (iI_lt ha.2 ha.1).mpr h; omega) | (have h2 := mt (iI_le ha.1 ha.2).mpr h; omega) | (have h2 := mt (iI_le ha.2 ha.1).mpr h; omega)))
    (fun h => kf (by first | (have h2 := (iI_inj ha.1 ha.2).mp h; omega) | (have h2 := (iI_inj ha.1 ha.2).mp (Decidable.not_not.mp h); omega) | (have h2 := mt (iI_inj ha.1 ha.2).mpr h; omega) | (have h2 := mt (iI_lt ha.1 ha.2).mpr h; omega) | (have h2 := mt (iI_lt ha.2 ha.1).mpr h; omega) | (have h2 := mt (iI_le ha.1 ha.2).mpr h; omega) | (have h2 := mt (iI_le ha.2 ha.1).mpr h; omega)))
theorem r_ilt {a : Int} {off : Int} (tgt : Nat) (C : CT p s m args meth c cc own nL) (hd : decode cc pc = .ok (.ifCond .lt off, 3)) (ht : (pc : Int) + off = (tgt : Int)) (ha : rg a) (kt : a < 0 → W p l e R s m args below meth c H locs cells slots Q (F0 m tgt ls rest)) (kf : 0 ≤ a → W p l e R s m args below meth c H locs cells slots Q (F0 m (pc + 3) ls rest)) : W p l e R s m args below meth c H locs cells slots Q (F0 m pc ls (zV a :: rest)) := by
  have hz : rg 0 := by decide
  refine lv_if_lt C.1 C.2.1 hd ht (fun h => kt ?_) (fun h => kf ?_) <;> rw [← iI_0] at h
  · first | (have h2 := (iI_inj ha hz).mp h; omega) | (have h2 := (iI_lt ha hz).mp h; omega) | (have h2 := (iI_lt hz ha).mp h; omega) | (have h2 := (iI_le ha hz).mp h; omega) | (have h2 := (iI_le hz ha).mp h; omega) | (have h2 := (iI_inj ha hz).mp (Decidable.not_not.mp h); omega) | (have h2 := mt (iI_inj ha hz).mpr h; omega) | (have h2 := mt (iI_lt ha hz).mpr h; omega) | (have h2 := mt (iI_lt hz ha).mpr h; omega) | (have h2 := mt (iI_le ha hz).mpr h; omega) | (have h2 := mt (iI_le hz ha).mpr h; omega)
  · first | (have h2 := (iI_inj ha hz).mp h; omega) | (have h2 := (iI_lt ha hz).mp h; omega) | (have h2 := (iI_lt hz ha).mp h; omega) | (have h2 := (iI_le ha hz).mp h; omega) | (have h2 := (iI_le hz ha).mp h; omega) | (have h2 := (iI_inj ha hz).mp (Decidable.not_not.mp h); omega) | (have h2 := mt (iI_inj ha hz).mpr h; omega) | (have h2 := mt (iI_lt ha hz).mpr h; omega) | (have h2 := mt (iI_lt hz ha).mpr h; omega) | (have h2 := mt (iI_le ha hz).mpr h; omega) | (have h2 := mt (iI_le hz ha).mpr h; omega)
theorem r_llt {a b : Int} {off : Int} (tgt : Nat) (C : CT p s m args meth c cc own nL) (hd0 : decode cc pc = .ok (.lcmp, 1)) (hd : decode cc (pc + 1) = .ok (.ifCond .lt off, 3)) (ht : ((pc + 1 : Nat) : Int) + off = (tgt : Int)) (ha : rl a ∧ rl b) (kt : a < b → W p l e R s m args below meth c H locs cells slots Q (F0 m tgt ls rest)) (kf : b ≤ a → W p l e R s m args below meth c H locs cells slots Q (F0 m (pc + 1 + 3) ls rest)) : W p l e R s m args below meth c H locs cells slots Q (F0 m pc ls (jV b :: jV a :: rest)) :=
  W.lcmp C.1 C.2.1 hd0 (lv_if_lt C.1 C.2.1 hd ht (fun h => kt (by
      first | (have h2 := (lI_inj ha.1 ha.2).mp ((lg_cmp_eq _ _).mp h); omega) | (have h2 := (lI_lt ha.1 ha.2).mp ((lg_cmp_lt _ _).mp h); omega) | (have h2 := (lI_lt ha.2 ha.1).mp ((lg_cmp_gt _ _).mp h); omega) | (have h2 := (lI_le ha.1 ha.2).mp ((lg_cmp_le _ _).mp h); omega) | (have h2 := (lI_le ha.2 ha.1).mp ((lg_cmp_ge _ _).mp h); omega) | (have h2 := mt (fun q => (lg_cmp_eq _ _).mpr ((lI_inj ha.1 ha.2).mpr q)) h; omega) | (have h2 := mt (fun q => (lg_cmp_lt _ _).mpr ((lI_lt ha.1 ha.2).mpr q)) h; omega) | (have h2 := mt (fun q => (lg_cmp_gt _ _).mpr ((lI_lt ha.2 ha.1).mpr q)) h; omega)))
    (fun h => kf (by
      first | (have h2 := (lI_inj ha.1 ha.2).mp ((lg_cmp_eq _ _).mp h); omega) | (have h2 := (lI_inj ha.1 ha.2).mp ((lg_cmp_eq _ _).mp (Decidable.not_not.mp h)); omega) | (have h2 := mt (fun q => (lg_cmp_eq _ _).mpr ((lI_inj ha.1 ha.2).mpr q)) h; omega) | (have h2 := mt (fun q => (lg_cmp_lt _ _).mpr ((lI_lt ha.1 ha.2).mpr q)) h; omega) | (have h2 := mt (fun q => (lg_cmp_gt _ _).mpr ((lI_lt ha.2 ha.1).mpr q)) h; omega) | (have h2 := mt (fun q => (lg_cmp_le _ _).mpr ((lI_le ha.1 ha.2).mpr q)) h; omega) | (have h2 := mt (fun q => (lg_cmp_ge _ _).mpr ((lI_le ha.2 ha.1).mpr q)) h; omega))))
theorem r_cge {a b : Int} {off : Int} (tgt : Nat) (C : CT p s m args meth c cc own nL) (hd : decode cc pc = .ok (.if_icmp .ge off, 3)) (ht : (pc : Int) + off = (tgt : Int)) (ha : rg a ∧ rg b) (kt : b ≤ a → W p l e R s m args below meth c H locs cells slots Q (F0 m tgt ls rest)) (kf : a < b → W p l e R s m args below meth c H locs cells slots Q (F0 m (pc + 3) ls rest)) : W p l e R s m args below meth c H locs cells slots Q (F0 m pc ls (zV b :: zV a :: rest)) :=
  lv_icmp_ge C.1 C.2.1 hd ht (fun h => kt (by first | (have h2 := (iI_inj ha.1 ha.2).mp h; omega) | (have h2 := fun q => h ((iI_inj ha.1 ha.2).mpr q); omega) | (have h2 := (iI_lt ha.1 ha.2).mp h; omega) | (have h2 := (iI_lt ha.2 ha.1).mp h; omega) | (have h2 := (iI_le ha.1 ha.2).mp h; omega) | (have h2 := (iI_le ha.2 ha.1).mp h; omega) | (have h2 := mt (iI_inj ha.1 ha.2).mpr h; omega) | (have h2 := mt (iI_lt ha.1 ha.2).mpr h; omega) | (have h2 := mt (iI_lt ha.2 ha.1).mpr h; omega) | (have h2 := mt (iI_le ha.1 ha.2).mpr h; omega) | (have h2 := mt (iI_le ha.2 ha.1).mpr h; omega)))
    (fun h => kf (by first | (have h2 := (iI_inj ha.1 ha.2).mp h; omega) | (have h2 := (iI_inj ha.1 ha.2).mp (Decidable.not_not.mp h); omega) | (have h2 := mt (iI_inj ha.1 ha.2).mpr h; omega) | (have h2 := mt (iI_lt ha.1 ha.2).mpr h; omega) | (have h2 := mt (iI_lt ha.2 ha.1).mpr h; omega) | (have h2 := mt (iI_le ha.1 ha.2).mpr h; omega) | (have h2 := mt (iI_le ha.2 ha.1).mpr h; omega)))
theorem r_ige {a : Int} {off : Int} (tgt : Nat) (C : CT p s m args meth c cc own nL) (hd : decode cc pc = .ok (.ifCond .ge off, 3)) (ht : (pc : Int) + off = (tgt : Int)) (ha : rg a) (kt : 0 ≤ a → W p l e R s m args below meth c H locs cells slots Q (F0 m tgt ls rest)) (kf : a < 0 → W p l e R s m args below meth c H locs cells slots Q (F0 m (pc + 3) ls rest)) : W p l e R s m args below meth c H locs cells slots Q (F0 m pc ls (zV a :: rest)) := by
  have hz : rg 0 := by decide
  refine lv_if_ge C.1 C.2.1 hd ht (fun h => kt ?_) (fun h => kf ?_) <;> rw [← iI_0] at h
  · first | (have h2 := (iI_inj ha hz).mp h; omega) | (have h2 := (iI_lt ha hz).mp h; omega) | (have h2 := (iI_lt hz ha).mp h; omega) | (have h2 := (iI_le ha hz).mp h; omega) | (have h2 := (iI_le hz ha).mp h; omega) | (have h2 := (iI_inj ha hz).mp (Decidable.not_not.mp h); omega) | (have h2 := mt (iI_inj ha hz).mpr h; omega) | (have h2 := mt (iI_lt ha hz).mpr h; omega) | (have h2 := mt (iI_lt hz ha).mpr h; omega) | (have h2 := mt (iI_le ha hz).mpr h; omega) | (have h2 := mt (iI_le hz ha).mpr h; omega)
  · first | (have h2 := (iI_inj ha hz).mp h; omega) | (have h2 := (iI_lt ha hz).mp h; omega) | (have h2 := (iI_lt hz ha).mp h; omega) | (have h2 := (iI_le ha hz).mp h; omega) | (have h2 := (iI_le hz ha).mp h; omega) | (have h2 := (iI_inj ha hz).mp (Decidable.not_not.mp h); omega) | (have h2 := mt (iI_inj ha hz).mpr h; omega) | (have h2 := mt (iI_lt ha hz).mpr h; omega) | (have h2 := mt (iI_lt hz ha).mpr h; omega) | (have h2 := mt (iI_le ha hz).mpr h; omega) | (have h2 := mt (iI_le hz ha).mpr h; omega)
theorem r_lge {a b : Int} {off : Int} (tgt : Nat) (C : CT p s m args meth c cc own nL) (hd0 : decode cc pc = .ok (.lcmp, 1)) (hd : decode cc (pc + 1) = .ok (.ifCond .ge off, 3)) (ht : ((pc + 1 : Nat) : Int) + off = (tgt : Int)) (ha : rl a ∧ rl b) (kt : b ≤ a → W p l e R s m args below meth c H locs cells slots Q (F0 m tgt ls rest)) (kf : a < b → W p l e R s m args below meth c H locs cells slots Q (F0 m (pc + 1 + 3) ls rest)) : W p l e R s m args below meth c H locs cells slots Q (F0 m pc ls (jV b :: jV a :: rest)) :=
  W.lcmp C.1 C.2.1 hd0 (lv_if_ge C.1 C.2.1 hd ht (fun h => kt (by
      first | (have h2 := (lI_inj ha.1 ha.2).mp ((lg_cmp_eq _ _).mp h); omega) | (have h2 := (lI_lt ha.1 ha.2).mp ((lg_cmp_lt _ _).mp h); omega) | (have h2 := (lI_lt ha.2 ha.1).mp ((lg_cmp_gt _ _).mp h); omega) | (have h2 := (lI_le ha.1 ha.2).mp ((lg_cmp_le _ _).mp h); omega) | (have h2 := (lI_le ha.2 ha.1).mp ((lg_cmp_ge _ _).mp h); omega) | (have h2 := mt (fun q => (lg_cmp_eq _ _).mpr ((lI_inj ha.1 ha.2).mpr q)) h; omega) | (have h2 := mt (fun q => (lg_cmp_lt _ _).mpr ((lI_lt ha.1 ha.2).mpr q)) h; omega) | (have h2 := mt (fun q => (lg_cmp_gt _ _).mpr ((lI_lt ha.2 ha.1).mpr q)) h; omega)))
    (fun h => kf (by
      first | (have h2 := (lI_inj ha.1 ha.2).mp ((lg_cmp_eq _ _).mp h); omega) | (have h2 := (lI_inj ha.1 ha.2).mp ((lg_cmp_eq _ _).mp (Decidable.not_not.mp h)); omega) | (have h2 := mt (fun q => (lg_cmp_eq _ _).mpr ((lI_inj ha.1 ha.2).mpr q)) h; omega) | (have h2 := mt (fun q => (lg_cmp_lt _ _).mpr ((lI_lt ha.1 ha.2).mpr q)) h; omega) | (have h2 := mt (fun q => (lg_cmp_gt _ _).mpr ((lI_lt ha.2 ha.1).mpr q)) h; omega) | (have h2 := mt (fun q => (lg_cmp_le _ _).mpr ((lI_le ha.1 ha.2).mpr q)) h; omega) | (have h2 := mt (fun q => (lg_cmp_ge _ _).mpr ((lI_le ha.2 ha.1).mpr q)) h; omega))))
theorem r_cgt {a b : Int} {off : Int} (tgt : Nat) (C : CT p s m args meth c cc own nL) (hd : decode cc pc = .ok (.if_icmp .gt off, 3)) (ht : (pc : Int) + off = (tgt : Int)) (ha : rg a ∧ rg b) (kt : b < a → W p l e R s m args below meth c H locs cells slots Q (F0 m tgt ls rest)) (kf : a ≤ b → W p l e R s m args below meth c H locs cells slots Q (F0 m (pc + 3) ls rest)) : W p l e R s m args below meth c H locs cells slots Q (F0 m pc ls (zV b :: zV a :: rest)) :=
  lv_icmp_gt C.1 C.2.1 hd ht (fun h => kt (by first | (have h2 := (iI_inj ha.1 ha.2).mp h; omega) | (have h2 := fun q => h ((iI_inj ha.1 ha.2).mpr q); omega) | (have h2 := (iI_lt ha.1 ha.2).mp h; omega) | (have h2 := (iI_lt ha.2 ha.1).mp h; omega) | (have h2 := (iI_le ha.1 ha.2).mp h; omega) | (have h2 := (iI_le ha.2 ha.1).mp h; omega) | (have h2 := mt (iI_inj ha.1 ha.2).mpr h; omega) | (have h2 := mt (iI_lt ha.1 ha.2).mpr h; omega) | (have h2 := mt (iI_lt ha.2 ha.1).mpr h; omega) | (have h2 := mt (iI_le ha.1 ha.2).mpr h; omega) | (have h2 := mt (iI_le ha.2 ha.1).mpr h; omega)))
    (fun h => kf (by first | (have h2 := (iI_inj ha.1 ha.2).mp h; omega) | (have h2 := (iI_inj ha.1 ha.2).mp (Decidable.not_not.mp h); omega) | (have h2 := mt (iI_inj ha.1 ha.2).mpr h; omega) | (have h2 := mt (iI_lt ha.1 ha.2).mpr h; omega) | (have h2 := mt (iI_lt ha.2 ha.1).mpr h; omega) | (have h2 := mt (iI_le ha.1 ha.2).mpr h; omega) | (have h2 := mt (iI_le ha.2 ha.1).mpr h; omega)))
theorem r_igt {a : Int} {off : Int} (tgt : Nat) (C : CT p s m args meth c cc own nL) (hd : decode cc pc = .ok (.ifCond .gt off, 3)) (ht : (pc : Int) + off = (tgt : Int)) (ha : rg a) (kt : 0 < a → W p l e R s m args below meth c H locs cells slots Q (F0 m tgt ls rest)) (kf : a ≤ 0 → W p l e R s m args below meth c H locs cells slots Q (F0 m (pc + 3) ls rest)) : W p l e R s m args below meth c H locs cells slots Q (F0 m pc ls (zV a :: rest)) := by
  have hz : rg 0 := by decide
  refine lv_if_gt C.1 C.2.1 hd ht (fun h => kt ?_) (fun h => kf ?_) <;> rw [← iI_0] at h
  · first | (have h2 := (iI_inj ha hz).mp h; omega) | (have h2 := (iI_lt ha hz).mp h; omega) | (have h2 := (iI_lt hz ha).mp h; omega) | (have h2 := (iI_le ha hz).mp h; omega) | (have h2 := (iI_le hz ha).mp h; omega) | (have h2 := (iI_inj ha hz).mp (Decidable.not_not.mp h); omega) | (have h2 := mt (iI_inj ha hz).mpr h; omega) | (have h2 := mt (iI_lt ha hz).mpr h; omega) | (have h2 := mt (iI_lt hz ha).mpr h; omega) | (have h2 := mt (iI_le ha hz).mpr h; omega) | (have h2 := mt (iI_le hz ha).mpr h; omega)
  · first | (have h2 := (iI_inj ha hz).mp h; omega) | (have h2 := (iI_lt ha hz).mp h; omega) | (have h2 := (iI_lt hz ha).mp h; omega) | (have h2 := (iI_le ha hz).mp h; omega) | (have h2 := (iI_le hz ha).mp h; omega) | (have h2 := (iI_inj ha hz).mp (Decidable.not_not.mp h); omega) | (have h2 := mt (iI_inj ha hz).mpr h; omega) | (have h2 := mt (iI_lt ha hz).mpr h; omega) | (have h2 := mt (iI_lt hz ha).mpr h; omega) | (have h2 := mt (iI_le ha hz).mpr h; omega) | (have h2 := mt (iI_le hz ha).mpr h; omega)
theorem r_lgt {a b : Int} {off : Int} (tgt : Nat) (C : CT p s m args meth c cc own nL) (hd0 : decode cc pc = .ok (.lcmp, 1)) (hd : decode cc (pc + 1) = .ok (.ifCond .gt off, 3)) (ht : ((pc + 1 : Nat) : Int) + off = (tgt : Int)) (ha : rl a ∧ rl b) (kt : b < a → W p l e R s m args below meth c H locs cells slots Q (F0 m tgt ls rest)) (kf : a ≤ b → W p l e R s m args below meth c H locs cells slots Q (F0 m (pc + 1 + 3) ls rest)) : W p l e R s m args below meth c H locs cells slots Q (F0 m pc ls (jV b :: jV a :: rest)) :=
  W.lcmp C.1 C.2.1 hd0 (lv_if_gt C.1 C.2.1 hd ht (fun h => kt (by
      first | (have h2 := (lI_inj ha.1 ha.2).mp ((lg_cmp_eq _ _).mp h); omega) | (have h2 := (lI_lt ha.1 ha.2).mp ((lg_cmp_lt _ _).mp h); omega) | (have h2 := (lI_lt ha.2 ha.1).mp ((lg_cmp_gt _ _).mp h); omega) | (have h2 := (lI_le ha.1 ha.2).mp ((lg_cmp_le _ _).mp h); omega) | (have h2 := (lI_le ha.2 ha.1).mp ((lg_cmp_ge _ _).mp h); omega) | (have h2 := mt (fun q => (lg_cmp_eq _ _).mpr ((lI_inj ha.1 ha.2).mpr q)) h; omega) | (have h2 := mt (fun q => (lg_cmp_lt _ _).mpr ((lI_lt ha.1 ha.2).mpr q)) h; omega) | (have h2 := mt (fun q => (lg_cmp_gt _ _).mpr ((lI_lt ha.2 ha.1).mpr q)) h; omega)))
    (fun h => kf (by
      first | (have h2 := (lI_inj ha.1 ha.2).mp ((lg_cmp_eq _ _).mp h); omega) | (have h2 := (lI_inj ha.1 ha.2).mp ((lg_cmp_eq _ _).mp (Decidable.not_not.mp h)); omega) | (have h2 := mt (fun q => (lg_cmp_eq _ _).mpr ((lI_inj ha.1 ha.2).mpr q)) h; omega) | (have h2 := mt (fun q => (lg_cmp_lt _ _).mpr ((lI_lt ha.1 ha.2).mpr q)) h; omega) | (have h2 := mt (fun q => (lg_cmp_gt _ _).mpr ((lI_lt ha.2 ha.1).mpr q)) h; omega) | (have h2 := mt (fun q => (lg_cmp_le _ _).mpr ((lI_le ha.1 ha.2).mpr q)) h; omega) | (have h2 := mt (fun q => (lg_cmp_ge _ _).mpr ((lI_le ha.2 ha.1).mpr q)) h; omega))))
theorem r_cle {a b : Int} {off : Int} (tgt : Nat) (C : CT p s m args meth c cc own nL) (hd : decode cc pc = .ok (.if_icmp .le off, 3)) (ht : (pc : Int) + off = (tgt : Int)) (ha : rg a ∧ rg b) (kt : a ≤ b → W p l e R s m args below meth c H locs cells slots Q (F0 m tgt ls rest)) (kf : b < a → W p l e R s m args below meth c H locs cells slots Q (F0 m (pc + 3) ls rest)) : W p l e R s m args below meth c H locs cells slots Q (F0 m pc ls (zV b :: zV a :: rest)) :=
  lv_icmp_le C.1 C.2.1 hd ht (fun h => kt (by first | (have h2 := (iI_inj ha.1 ha.2).mp h; omega) | (have h2 := fun q => h ((iI_inj ha.1 ha.2).mpr q); omega) | (have h2 := (iI_lt ha.1 ha.2).mp h; omega) | (have h2 := (iI_lt ha.2 ha.1).mp h; omega) | (have h2 := (iI_le ha.1 ha.2).mp h; omega) | (have h2 := (iI_le ha.2 ha.1).mp h; omega) | (have h2 := mt (iI_inj ha.1 ha.2).mpr h; omega) | (have h2 := mt (iI_lt ha.1 ha.2).mpr h; omega) | (have h2 := mt (iI_lt ha.2 ha.1).mpr h; omega) | (have h2 := mt (iI_le ha.1 ha.2).mpr h; omega) | (have h2 := mt (iI_le ha.2 ha.1).mpr h; omega)))
    (fun h => kf (by first | (have h2 := (iI_inj ha.1 ha.2).mp h; omega) | (have h2 := (iI_inj ha.1 ha.2).mp (Decidable.not_not.mp h); omega) | (have h2 := mt (iI_inj ha.1 ha.2).mpr h; omega) | (have h2 := mt (iI_lt ha.1 ha.2).mpr h; omega) | (have h2 := mt (iI_lt ha.2 ha.1).mpr h; omega) | (have h2 := mt (iI_le ha.1 ha.2).mpr h; omega) | (have h2 := mt (iI_le ha.2 ha.1).mpr h; omega)))
theorem r_ile {a : Int} {off : Int} (tgt : Nat) (C : CT p s m args meth c cc own nL) (hd : decode cc pc = .ok (.ifCond .le off, 3)) (ht : (pc : Int) + off = (tgt : Int)) (ha : rg a) (kt : a ≤ 0 → W p l e R s m args below meth c H locs cells slots Q (F0 m tgt ls rest)) (kf : 0 < a → W p l e R s m args below meth c H locs cells slots Q (F0 m (pc + 3) ls rest)) : W p l e R s m args below meth c H locs cells slots Q (F0 m pc ls (zV a :: rest)) := by
  have hz : rg 0 := by decide
  refine lv_if_le C.1 C.2.1 hd ht (fun h => kt ?_) (fun h => kf ?_) <;> rw [← iI_0] at h
  · first | (have h2 := (iI_inj ha hz).mp h; omega) | (have h2 := (iI_lt ha hz).mp h; omega) | (have h2 := (iI_lt hz ha).mp h; omega) | (have h2 := (iI_le ha hz).mp h; omega) | (have h2 := (iI_le hz ha).mp h; omega) | (have h2 := (iI_inj ha hz).mp (Decidable.not_not.mp h); omega) | (have h2 := mt (iI_inj ha hz).mpr h; omega) | (have h2 := mt (iI_lt ha hz).mpr h; omega) | (have h2 := mt (iI_lt hz ha).mpr h; omega) | (have h2 := mt (iI_le ha hz).mpr h; omega) | (have h2 := mt (iI_le hz ha).mpr h; omega)
  · first | (have h2 := (iI_inj ha hz).mp h; omega) | (have h2 := (iI_lt ha hz).mp h; omega) | (have h2 := (iI_lt hz ha).mp h; omega) | (have h2 := (iI_le ha hz).mp h; omega) | (have h2 := (iI_le hz ha).mp h; omega) | (have h2 := (iI_inj ha hz).mp (Decidable.not_not.mp h); omega) | (have h2 := mt (iI_inj ha hz).mpr h; omega) | (have h2 := mt (iI_lt ha hz).mpr h; omega) | (have h2 := mt (iI_lt hz ha).mpr h; omega) | (have h2 := mt (iI_le ha hz).mpr h; omega) | (have h2 := mt (iI_le hz ha).mpr h; omega)
theorem r_lle {a b : Int} {off : Int} (tgt : Nat) (C : CT p s m args meth c cc own nL) (hd0 : decode cc pc = .ok (.lcmp, 1)) (hd : decode cc (pc + 1) = .ok (.ifCond .le off, 3)) (ht : ((pc + 1 : Nat) : Int) + off = (tgt : Int)) (ha : rl a ∧ rl b) (kt : a ≤ b → W p l e R s m args below meth c H locs cells slots Q (F0 m tgt ls rest)) (kf : b < a → W p l e R s m args below meth c H locs cells slots Q (F0 m (pc + 1 + 3) ls rest)) : W p l e R s m args below meth c H locs cells slots Q (F0 m pc ls (jV b :: jV a :: rest)) :=
  W.lcmp C.1 C.2.1 hd0 (lv_if_le C.1 C.2.1 hd ht (fun h => kt (by
      first | (have h2 := (lI_inj ha.1 ha.2).mp ((lg_cmp_eq _ _).mp h); omega) | (have h2 := (lI_lt ha.1 ha.2).mp ((lg_cmp_lt _ _).mp h); omega) | (have h2 := (lI_lt ha.2 ha.1).mp ((lg_cmp_gt _ _).mp h); omega) | (have h2 := (lI_le ha.1 ha.2).mp ((lg_cmp_le _ _).mp h); omega) | (have h2 := (lI_le ha.2 ha.1).mp ((lg_cmp_ge _ _).mp h); omega) | (have h2 := mt (fun q => (lg_cmp_eq _ _).mpr ((lI_inj ha.1 ha.2).mpr q)) h; omega) | (have h2 := mt (fun q => (lg_cmp_lt _ _).mpr ((lI_lt ha.1 ha.2).mpr q)) h; omega) | (have h2 := mt (fun q => (lg_cmp_gt _ _).mpr ((lI_lt ha.2 ha.1).mpr q)) h; omega)))
    (fun h => kf (by
      first | (have h2 := (lI_inj ha.1 ha.2).mp ((lg_cmp_eq _ _).mp h); omega) | (have h2 := (lI_inj ha.1 ha.2).mp ((lg_cmp_eq _ _).mp (Decidable.not_not.mp h)); omega) | (have h2 := mt (fun q => (lg_cmp_eq _ _).mpr ((lI_inj ha.1 ha.2).mpr q)) h; omega) | (have h2 := mt (fun q => (lg_cmp_lt _ _).mpr ((lI_lt ha.1 ha.2).mpr q)) h; omega) | (have h2 := mt (fun q => (lg_cmp_gt _ _).mpr ((lI_lt ha.2 ha.1).mpr q)) h; omega) | (have h2 := mt (fun q => (lg_cmp_le _ _).mpr ((lI_le ha.1 ha.2).mpr q)) h; omega) | (have h2 := mt (fun q => (lg_cmp_ge _ _).mpr ((lI_le ha.2 ha.1).mpr q)) h; omega))))
theorem r_beq {P : Prop} [Decidable P] {off : Int} (tgt : Nat) (C : CT p s m args meth c cc own nL) (hd : decode cc pc = .ok (.ifCond .eq off, 3)) (ht : (pc : Int) + off = (tgt : Int)) (kt : ¬ P → W p l e R s m args below meth c H locs cells slots Q (F0 m tgt ls rest)) (kf : P → W p l e R s m args below meth c H locs cells slots Q (F0 m (pc + 3) ls rest)) : W p l e R s m args below meth c H locs cells slots Q (F0 m pc ls (bV P :: rest)) :=
  lv_if_eq C.1 C.2.1 hd ht (fun h => kt (bI_0.mp h)) (fun h => kf (Decidable.not_not.mp (mt bI_0.mpr h)))
theorem r_bne {P : Prop} [Decidable P] {off : Int} (tgt : Nat) (C : CT p s m args meth c cc own nL) (hd : decode cc pc = .ok (.ifCond .ne off, 3)) (ht : (pc : Int) + off = (tgt : Int)) (kt : P → W p l e R s m args below meth c H locs cells slots Q (F0 m tgt ls rest)) (kf : ¬ P → W p l e R s m args below meth c H locs cells slots Q (F0 m (pc + 3) ls rest)) : W p l e R s m args below meth c H locs cells slots Q (F0 m pc ls (bV P :: rest)) :=
  lv_if_ne C.1 C.2.1 hd ht (fun h => kt (Decidable.not_not.mp (mt bI_0.mpr h))) (fun h => kf (by first | exact bI_0.mp h | exact bI_0.mp (Decidable.not_not.mp h)))
theorem r_goto {off : Int} (tgt : Nat) (C : CT p s m args meth c cc own nL) (hd : decode cc pc = .ok (.goto off, 3)) (ht : (pc : Int) + off = (tgt : Int)) (kk : W p l e R s m args below meth c H locs cells slots Q (F0 m tgt ls rest)) : W p l e R s m args below meth c H locs cells slots Q (F0 m pc ls rest) := lv_goto C.1 C.2.1 hd ht kk
theorem r_tsw {dflt lo hi : Int} {offs : Array Int} {len : Nat} {off : Int} {z : Int} (k tgt : Nat) (C : CT p s m args meth c cc own nL) (hd : decode cc pc = .ok (.tableswitch dflt lo hi offs, len)) (hr : rg z) (hz : z = lo + (k : Int)) (hk : lo + (k : Int) ≤ hi) (ho : offs[k]? = some off) (ht : (pc : Int) + off = (tgt : Int)) (kk : W p l e R s m args below meth c H locs cells slots Q (F0 m tgt ls rest)) : W p l e R s m args below meth c H locs cells slots Q (F0 m pc ls (zV z :: rest)) :=
  lv_tableIn C.1 C.2.1 hd (by rw [iI_toInt hr]; omega) (by rw [iI_toInt hr]; omega) (by rw [iI_toInt hr, show (z - lo).toNat = k by omega]; exact ho) ht kk
theorem r_tswD {dflt lo hi : Int} {offs : Array Int} {len : Nat} {z : Int} (tgt : Nat) (C : CT p s m args meth c cc own nL) (hd : decode cc pc = .ok (.tableswitch dflt lo hi offs, len)) (hr : rg z) (hz : z < lo ∨ hi < z) (ht : (pc : Int) + dflt = (tgt : Int)) (kk : W p l e R s m args below meth c H locs cells slots Q (F0 m tgt ls rest)) : W p l e R s m args below meth c H locs cells slots Q (F0 m pc ls (zV z :: rest)) :=
  lv_tableOut C.1 C.2.1 hd (by rw [iI_toInt hr]; exact hz) ht kk
/-! ===== fields ===== -/
theorem r_get {Cn : String} {T : u_T} {N ci idx a : Nat} {fs : List Value} {v : Value} (C : CT p s m args meth c cc own nL) (hK : KW g s) (hP : va_P g.1 vwCl ws H) (hin : ∀ w ∈ u_ws Cn T N, w ∈ TB) (hc : vwCl[ci]? = some (Cn, T, N)) (q0 k : Nat) (hk : k < N) (hl : Cond.fieldLink own idx (T k).1 (T k).2.1 (T k).2.2.1 ∈ TB) (he : ws[q0]? = some (a, .inr (ci, fs))) (hv : fs[k]? = some v) (hd : decode cc pc = .ok (.getfield idx, 3))
    (kk : W p l e R s m args below meth c H locs cells slots Q (F0 m (pc + 3) ls (v :: rest))) : W p l e R s m args below meth c H locs cells slots Q (F0 m pc ls (.ref a :: rest)) :=
  va_get C.1 C.2.1 C.2.2.2.2.1 hin C.2.2.2.1 hK.1 hP q0 he hc k hk (C.2.2.2.2.1 _ hl) (fun _ h => h) hv hd kk
theorem r_put {Cn : String} {T : u_T} {N ci idx a : Nat} {fs : List Value} {ty : FieldType} {v : Value} {ty0 : Nat → FieldType} (C : CT p s m args meth c cc own nL) (hK : KW g s) (hP : va_P g.1 vwCl ws H) (hD : va_D A ws) (hS : va_S A s.heap H locs) (hin : ∀ w ∈ u_ws Cn T N, w ∈ TB) (hty : ∀ k, k < N → parseFieldDescriptor (T k).2.2.1 = some (ty0 k)) (hnm : ∀ a, a < N → ∀ b, b < N → a ≠ b → (T a).2.1 ≠ (T b).2.1) (hc : vwCl[ci]? = some (Cn, T, N)) (q0 k : Nat) (hk : k < N) (hl : Cond.fieldLink own idx (T k).1 (T k).2.1 (T k).2.2.1 ∈ TB) (he : ws[q0]? = some (a, .inr (ci, fs))) (hfin : (T k).2.2.2 = false) (ht : ty0 k = ty) (hn : narrow ty v = v) (hfit : fits ty v = true) (hlt : k < fs.length) (hd : decode cc pc = .ok (.putfield idx, 3))
    (kk : ∀ (H1 : Heap) (locs1 : List Loc), va_P g.1 vwCl (ws.set q0 (a, .inr (ci, fs.set k v))) H1 → va_D A (ws.set q0 (a, .inr (ci, fs.set k v))) → va_S A s.heap H1 locs1 → W p l e R s m args below meth c H1 locs1 cells slots Q (F0 m (pc + 3) ls rest)) : W p l e R s m args below meth c H locs cells slots Q (F0 m pc ls (v :: .ref a :: rest)) :=
  va_put C.1 C.2.1 C.2.2.2.2.1 hin ty0 hty hnm C.2.2.2.1 hK.1 hP hD hS q0 he hc k hk (C.2.2.2.2.1 _ hl) (fun _ h => h) hfin (ty := ty) (by rw [hty k hk, ht]) hn hfit hlt hd kk
/-! ===== arrays ===== -/
theorem r_aldN {a n i : Nat} {F : Nat → Nat} (C : CT p s m args meth c cc own nL) (hK : KW g s) (hP : va_P g.1 vwCl ws H) (q0 : Nat) (he : ws[q0]? = some (a, cN g n F)) (hi : i < n ∧ n < 2147483648) (hd : decode cc pc = .ok (.iaload, 1)) (kk : W p l e R s m args below meth c H locs cells slots Q (F0 m (pc + 1) ls (nV (F i) :: rest))) : W p l e R s m args below meth c H locs cells slots Q (F0 m pc ls (nV i :: .ref a :: rest)) :=
  va_iald C.1 C.2.1 hK.1 hP q0 1 he rfl (iI_in hi.1 hi.2) hd (by rw [iI_cl (by omega)]; exact kk)
theorem r_aldZ {a n i : Nat} {F : Nat → Int} (C : CT p s m args meth c cc own nL) (hK : KW g s) (hP : va_P g.1 vwCl ws H) (q0 : Nat) (he : ws[q0]? = some (a, cZ g n F)) (hi : i < n ∧ n < 2147483648) (hd : decode cc pc = .ok (.iaload, 1)) (kk : W p l e R s m args below meth c H locs cells slots Q (F0 m (pc + 1) ls (zV (F i) :: rest))) : W p l e R s m args below meth c H locs cells slots Q (F0 m pc ls (nV i :: .ref a :: rest)) :=
  va_iald C.1 C.2.1 hK.1 hP q0 1 he rfl (iI_in hi.1 hi.2) hd (by rw [iI_cl (by omega)]; exact kk)
theorem r_aldB {a n i : Nat} {F : Nat → Nat} (C : CT p s m args meth c cc own nL) (hK : KW g s) (hP : va_P g.1 vwCl ws H) (q0 : Nat) (he : ws[q0]? = some (a, cB g n F)) (hi : i < n ∧ n < 2147483648) (hd : decode cc pc = .ok (.baload, 1)) (kk : W p l e R s m args below meth c H locs cells slots Q (F0 m (pc + 1) ls (.int (sb_b (F i)) :: rest))) : W p l e R s m args below meth c H locs cells slots Q (F0 m pc ls (nV i :: .ref a :: rest)) :=
  va_bald C.1 C.2.1 hK.1 hP q0 0 he rfl (iI_in hi.1 hi.2) hd (by rw [iI_cl (by omega)]; exact kk)
theorem r_aldO {a n i : Nat} {F : Nat → Bool} (C : CT p s m args meth c cc own nL) (hK : KW g s) (hP : va_P g.1 vwCl ws H) (q0 : Nat) (he : ws[q0]? = some (a, cO g n F)) (hi : i < n ∧ n < 2147483648) (hd : decode cc pc = .ok (.baload, 1)) (kk : W p l e R s m args below meth c H locs cells slots Q (F0 m (pc + 1) ls (bV (F i = true) :: rest))) : W p l e R s m args below meth c H locs cells slots Q (F0 m pc ls (nV i :: .ref a :: rest)) :=
  va_zald C.1 C.2.1 hK.1 hP q0 3 he rfl (iI_in hi.1 hi.2) hd (by rw [iI_cl (by omega)]; exact kk)
theorem r_aldL {a n i : Nat} {F : Nat → Int64} (C : CT p s m args meth c cc own nL) (hK : KW g s) (hP : va_P g.1 vwCl ws H) (q0 : Nat) (he : ws[q0]? = some (a, cL g n F)) (hi : i < n ∧ n < 2147483648) (hd : decode cc pc = .ok (.laload, 1)) (kk : W p l e R s m args below meth c H locs cells slots Q (F0 m (pc + 1) ls (.long (F i) :: rest))) : W p l e R s m args below meth c H locs cells slots Q (F0 m pc ls (nV i :: .ref a :: rest)) :=
  va_lald C.1 C.2.1 hK.1 hP q0 2 he rfl (iI_in hi.1 hi.2) hd (by rw [iI_cl (by omega)]; exact kk)
theorem r_astN {a n i v : Nat} {F : Nat → Nat} (C : CT p s m args meth c cc own nL) (hK : KW g s) (hP : va_P g.1 vwCl ws H) (hD : va_D A ws) (hS : va_S A s.heap H locs) (q0 : Nat) (he : ws[q0]? = some (a, cN g n F)) (hi : i < n ∧ n < 2147483648) (hd : decode cc pc = .ok (.iastore, 1))
    (kk : ∀ (H1 : Heap) (locs1 : List Loc), va_P g.1 vwCl (ws.set q0 (a, cN g n (upN F i v))) H1 → va_D A (ws.set q0 (a, cN g n (upN F i v))) → va_S A s.heap H1 locs1 → W p l e R s m args below meth c H1 locs1 cells slots Q (F0 m (pc + 1) ls rest)) : W p l e R s m args below meth c H locs cells slots Q (F0 m pc ls (nV v :: nV i :: .ref a :: rest)) :=
  va_iast C.1 C.2.1 hK.1 hP hD hS q0 1 he rfl (iI_in hi.1 hi.2) hd (fun H1 locs1 h1 h2 h3 => kk H1 locs1 (by rw [iI_cl (by omega), upd_N] at h1; exact h1) (by rw [iI_cl (by omega), upd_N] at h2; exact h2) h3)
theorem r_astZ {a n i : Nat} {v : Int} {F : Nat → Int} (C : CT p s m args meth c cc own nL) (hK : KW g s) (hP : va_P g.1 vwCl ws H) (hD : va_D A ws) (hS : va_S A s.heap H locs) (q0 : Nat) (he : ws[q0]? = some (a, cZ g n F)) (hi : i < n ∧ n < 2147483648) (hd : decode cc pc = .ok (.iastore, 1))
    (kk : ∀ (H1 : Heap) (locs1 : List Loc), va_P g.1 vwCl (ws.set q0 (a, cZ g n (upZ F i v))) H1 → va_D A (ws.set q0 (a, cZ g n (upZ F i v))) → va_S A s.heap H1 locs1 → W p l e R s m args below meth c H1 locs1 cells slots Q (F0 m (pc + 1) ls rest)) : W p l e R s m args below meth c H locs cells slots Q (F0 m pc ls (zV v :: nV i :: .ref a :: rest)) :=
  va_iast C.1 C.2.1 hK.1 hP hD hS q0 1 he rfl (iI_in hi.1 hi.2) hd (fun H1 locs1 h1 h2 h3 => kk H1 locs1 (by rw [iI_cl (by omega), upd_Z] at h1; exact h1) (by rw [iI_cl (by omega), upd_Z] at h2; exact h2) h3)
theorem r_astL {a n i : Nat} {v : Int64} {F : Nat → Int64} (C : CT p s m args meth c cc own nL) (hK : KW g s) (hP : va_P g.1 vwCl ws H) (hD : va_D A ws) (hS : va_S A s.heap H locs) (q0 : Nat) (he : ws[q0]? = some (a, cL g n F)) (hi : i < n ∧ n < 2147483648) (hd : decode cc pc = .ok (.lastore, 1))
    (kk : ∀ (H1 : Heap) (locs1 : List Loc), va_P g.1 vwCl (ws.set q0 (a, cL g n (vp_updL F i v))) H1 → va_D A (ws.set q0 (a, cL g n (vp_updL F i v))) → va_S A s.heap H1 locs1 → W p l e R s m args below meth c H1 locs1 cells slots Q (F0 m (pc + 1) ls rest)) : W p l e R s m args below meth c H locs cells slots Q (F0 m pc ls (.long v :: nV i :: .ref a :: rest)) :=
  va_last C.1 C.2.1 hK.1 hP hD hS q0 2 he rfl (iI_in hi.1 hi.2) hd (fun H1 locs1 h1 h2 h3 => kk H1 locs1 (by rw [iI_cl (by omega)] at h1; exact h1) (by rw [iI_cl (by omega)] at h2; exact h2) h3)
theorem r_astO {a n i : Nat} {b : Bool} {F : Nat → Bool} (C : CT p s m args meth c cc own nL) (hK : KW g s) (hP : va_P g.1 vwCl ws H) (hD : va_D A ws) (hS : va_S A s.heap H locs) (q0 : Nat) (he : ws[q0]? = some (a, cO g n F)) (hi : i < n ∧ n < 2147483648) (hd : decode cc pc = .ok (.bastore, 1))
    (kk : ∀ (H1 : Heap) (locs1 : List Loc), va_P g.1 vwCl (ws.set q0 (a, cO g n (va_up F i b))) H1 → va_D A (ws.set q0 (a, cO g n (va_up F i b))) → va_S A s.heap H1 locs1 → W p l e R s m args below meth c H1 locs1 cells slots Q (F0 m (pc + 1) ls rest)) : W p l e R s m args below meth c H locs cells slots Q (F0 m pc ls (bV (b = true) :: nV i :: .ref a :: rest)) := by
  have hu : upd (fun j => bI (F j = true)) i (vp_nar .boolean (bI (b = true))) = fun j => bI (va_up F i b j = true) := by
    funext j
    have hn : vp_nar .boolean (bI (b = true)) = bI (b = true) := by unfold vp_nar; rw [bI_nar]
    rw [hn]; unfold upd va_up; by_cases h : j = i <;> simp [h]
  exact va_zast C.1 C.2.1 hK.1 hP hD hS q0 3 he rfl (iI_in hi.1 hi.2) hd (fun H1 locs1 h1 h2 h3 => kk H1 locs1 (by rw [iI_cl (by omega), hu] at h1; exact h1) (by rw [iI_cl (by omega), hu] at h2; exact h2) h3)
theorem r_astB {a n i u : Nat} {F : Nat → Nat} {x : Int32} (C : CT p s m args meth c cc own nL) (hK : KW g s) (hP : va_P g.1 vwCl ws H) (hD : va_D A ws) (hS : va_S A s.heap H locs) (q0 : Nat) (he : ws[q0]? = some (a, cB g n F)) (hi : i < n ∧ n < 2147483648) (hx : vp_nar .byte x = sb_b u) (hd : decode cc pc = .ok (.bastore, 1))
    (kk : ∀ (H1 : Heap) (locs1 : List Loc), va_P g.1 vwCl (ws.set q0 (a, cB g n (upN F i u))) H1 → va_D A (ws.set q0 (a, cB g n (upN F i u))) → va_S A s.heap H1 locs1 → W p l e R s m args below meth c H1 locs1 cells slots Q (F0 m (pc + 1) ls rest)) : W p l e R s m args below meth c H locs cells slots Q (F0 m pc ls (.int x :: nV i :: .ref a :: rest)) := by
  have hu : upd (fun j => sb_b (F j)) i (vp_nar .byte x) = fun j => sb_b (upN F i u j) := by
    funext j
    rw [hx]; unfold upd upN; by_cases h : j = i <;> simp [h]
  exact va_bast C.1 C.2.1 hK.1 hP hD hS q0 0 he rfl (iI_in hi.1 hi.2) hd (fun H1 locs1 h1 h2 h3 => kk H1 locs1 (by rw [iI_cl (by omega), hu] at h1; exact h1) (by rw [iI_cl (by omega), hu] at h2; exact h2) h3)
end RW
end
section
/-! ===== cells of a world changed by a call ===== -/
def rp : va_W → List Nat → va_W → va_W
  | ws, i :: is, e :: es => rp (ws.set i e) is es
  | ws, _, _ => ws
theorem rp_P {D : va_G} {cl : List vw_C} {H1 : Heap} : ∀ (is : List Nat) (ws w1 : va_W), (∀ (k : Nat) (q : Nat × va_E), ws[k]? = some q → k ∉ is → va_at D cl q H1) → va_P D cl w1 H1 → is.length = w1.length → va_P D cl (rp ws is w1) H1
  | [], ws, w1, h, _, _ => by
    cases w1 <;> exact fun k q hk => h k q hk List.not_mem_nil
  | i :: is, ws, [], _, _, hl => by simp at hl
  | i :: is, ws, e :: es, h, hw, hl => by
    show va_P D cl (rp (ws.set i e) is es) H1
    refine rp_P is (ws.set i e) es (fun k q hk hn => ?_) (fun k q hk => hw (k + 1) q (by rw [List.getElem?_cons_succ]; exact hk)) (by simpa using hl)
    by_cases hki : k = i
    · subst hki
      rw [List.getElem?_set] at hk
      split at hk
      · split at hk
        · cases hk
          exact hw 0 _ rfl
        · cases hk
      · rename_i hne; exact absurd rfl hne
    · rw [List.getElem?_set_ne (fun z => hki z.symm)] at hk
      exact h k q hk (fun z => (List.mem_cons.mp z).elim hki hn)
theorem rp_fst : ∀ (is : List Nat) (ws w1 : va_W), is.map (fun i => (ws.map Prod.fst)[i]?) = w1.map (fun e => some e.1) → (rp ws is w1).map Prod.fst = ws.map Prod.fst
  | [], ws, w1, _ => by cases w1 <;> rfl
  | i :: is, ws, [], h => by simp at h
  | i :: is, ws, e :: es, h => by
    simp only [List.map_cons, List.cons.injEq] at h
    have hset : (ws.set i e).map Prod.fst = ws.map Prod.fst := by
      rw [List.map_set]
      obtain ⟨hlt, he⟩ := List.getElem?_eq_some_iff.mp h.1
      rw [← he, List.set_getElem_self]
    show (rp (ws.set i e) is es).map Prod.fst = _
    rw [rp_fst is (ws.set i e) es (by rw [hset]; exact h.2), hset]
theorem va_D.fst {A : Nat → Prop} {ws w2 : va_W} (h : va_D A ws) (he : w2.map Prod.fst = ws.map Prod.fst) : va_D A w2 := by
  have key : ∀ (k : Nat) (q : Nat × va_E), w2[k]? = some q → ∃ q0, ws[k]? = some q0 ∧ q0.1 = q.1 := by
    intro k q hk
    have h1 : (w2.map Prod.fst)[k]? = some q.1 := by rw [List.getElem?_map, hk]; rfl
    rw [he, List.getElem?_map] at h1
    cases h2 : ws[k]? with
    | none => rw [h2] at h1; cases h1
    | some q0 => rw [h2] at h1; exact ⟨q0, rfl, Option.some.inj h1⟩
  refine ⟨fun i j x y hi hj hxy => ?_, fun k q hk => ?_⟩
  · obtain ⟨x0, a1, a2⟩ := key i x hi
    obtain ⟨y0, b1, b2⟩ := key j y hj
    exact h.1 i j x0 y0 a1 b1 (by rw [a2, b2, hxy])
  · obtain ⟨q0, a1, a2⟩ := key k q hk
    rw [← a2]; exact h.2 k q0 a1
/-- behind a call that changed its own cells alone -/
theorem va_frame {A : Nat → Prop} {D : va_G} {cl : List vw_C} {ws wc w1 : va_W} {H H1 : Heap} (hP : va_P D cl ws H) (hD : va_D A ws) (isC : List Nat) (hC : isC.map (fun i => ws[i]?) = wc.map some) (hf : w1.map Prod.fst = wc.map Prod.fst)
    (hk : ∀ q : Nat, q < H.size → ¬ va_A wc H.size q → H1[q]? = H[q]?) (hP1 : va_P D cl w1 H1) : va_P D cl (rp ws isC w1) H1 ∧ va_D A (rp ws isC w1) := by
  have hlen : isC.length = w1.length := by
    have h1 := congrArg List.length hC
    have h2 := congrArg List.length hf
    simp at h1 h2
    omega
  refine ⟨rp_P isC ws w1 (fun k q hq hn => ?_) hP1 hlen, hD.fst (rp_fst isC ws w1 ?_)⟩
  · have hl := (hP k q hq).lt
    refine (hP k q hq).kept (hk q.1 hl (fun h => ?_))
    rcases h with ⟨k2, e, h⟩ | h
    · have h1 : (isC.map (fun i => ws[i]?))[k2]? = some (some (q.1, e)) := by rw [hC, List.getElem?_map, h]; rfl
      rw [List.getElem?_map] at h1
      cases hi : isC[k2]? with
      | none => rw [hi] at h1; cases h1
      | some i =>
        rw [hi] at h1
        have h2 : ws[i]? = some (q.1, e) := Option.some.inj h1
        have h3 := hD.1 k i q (q.1, e) hq h2 rfl
        subst h3
        exact hn (List.mem_of_getElem? hi)
    · omega
  · have h1 : isC.map (fun i => (ws.map Prod.fst)[i]?) = (isC.map (fun i => ws[i]?)).map (fun o => o.map Prod.fst) := by
      rw [List.map_map]; apply List.map_congr_left; intro i _; simp
    rw [h1, hC, List.map_map]
    have h2 : w1.map (fun e => some e.1) = (w1.map Prod.fst).map some := by rw [List.map_map]; rfl
    rw [h2, hf, List.map_map]; rfl
section RC
variable {p : Program} {l : Launch} {e : Env} {R : Room} {s : State} {m : MethodId} {args : Array Value} {below : List Frame} {meth : Method} {c : Code} {H : Heap} {locs : List Loc} {cells slots : Nat} {Q : State → Prop}
variable {cc : ByteArray} {own : String} {nL pc : Nat} {ls : Array Slot} {rest : List Value} {g : GG} {ws : va_W} {A : Nat → Prop} {lv : List (Nat × Value)}
theorem r_alen {a t0 : Nat} (nn : Nat) {cA : ClassId} {x : vp_A} {ty : FieldType} (C : CT p s m args meth c cc own nL) (hK : KW g s) (hP : va_P g.1 vwCl ws H) (q0 : Nat) (he : ws[q0]? = some (a, .inl (cA, x))) (ht : (tyG g)[t0]? = some (cA, ty)) (hnn : x.1 = nn) (hd : decode cc pc = .ok (.arraylength, 1)) (kk : W p l e R s m args below meth c H locs cells slots Q (F0 m (pc + 1) ls (nV nn :: rest))) : W p l e R s m args below meth c H locs cells slots Q (F0 m pc ls (.ref a :: rest)) :=
  va_alen C.1 C.2.1 hK.1 hP q0 t0 he ht (v := iI (nn : Int)) (by rw [hnn]; exact (iI_nI nn).symm) hd kk
/-! ===== Math.max, Math.min, System.arraycopy ===== -/
theorem r_mmax {idx : Nat} {a b : Int} (C : CT p s m args meth c cc own nL) (w2 : Cond.methodLink own idx yJ9_max_7cf53 ∈ TB) (hd : decode cc pc = .ok (.invokestatic idx, 3)) (hr : rg a ∧ rg b) (h1 : (rest.map fun v => v.category).sum + 13 ≤ R.locals ∧ 1 ≤ R.frames) (h2 : cells ≤ R.cells ∧ slots ≤ R.slots) (hls : lv_has ls nL lv)
    (kk : W p l e R s m args below meth c H locs cells slots Q (F0 m (pc + 3) ls (zV (max a b) :: rest))) : W p l e R s m args below meth c H locs cells slots Q (F0 m pc ls (zV b :: zV a :: rest)) :=
  va_mmax C.1 C.2.1 (by rw [C.2.2.1, hls.1]) C.2.2.2.1 (C.2.2.2.2.1 _ w2) (C.2.2.2.2.1 _ ks_J9_max_7cf53) (C.2.2.2.2.1 _ kn_J9) (C.2.2.2.2.1 _ kc_J9_max_7cf53) h1.2 h1.1 h2.1 h2.2 hd (by
    have e1 : (if iI a < iI b then iI b else iI a) = iI (max a b) := by
      by_cases h : a < b
      · rw [if_pos ((iI_lt hr.1 hr.2).mpr h), Int.max_eq_right (by omega)]
      · rw [if_neg (mt (iI_lt hr.1 hr.2).mp h), Int.max_eq_left (by omega)]
    rw [e1]; exact kk)
theorem r_mmin {idx : Nat} {a b : Int} (C : CT p s m args meth c cc own nL) (w2 : Cond.methodLink own idx yJ9_min_7cf53 ∈ TB) (hd : decode cc pc = .ok (.invokestatic idx, 3)) (hr : rg a ∧ rg b) (h1 : (rest.map fun v => v.category).sum + 13 ≤ R.locals ∧ 1 ≤ R.frames) (h2 : cells ≤ R.cells ∧ slots ≤ R.slots) (hls : lv_has ls nL lv)
    (kk : W p l e R s m args below meth c H locs cells slots Q (F0 m (pc + 3) ls (zV (min a b) :: rest))) : W p l e R s m args below meth c H locs cells slots Q (F0 m pc ls (zV b :: zV a :: rest)) :=
  va_mmin C.1 C.2.1 (by rw [C.2.2.1, hls.1]) C.2.2.2.1 (C.2.2.2.2.1 _ w2) (C.2.2.2.2.1 _ ks_J9_min_7cf53) (C.2.2.2.2.1 _ kn_J9) (C.2.2.2.2.1 _ kc_J9_min_7cf53) h1.2 h1.1 h2.1 h2.2 hd (by
    have e1 : (if iI b < iI a then iI b else iI a) = iI (min a b) := by
      by_cases h : b < a
      · rw [if_pos ((iI_lt hr.2 hr.1).mpr h), Int.min_eq_right (by omega)]
      · rw [if_neg (mt (iI_lt hr.2 hr.1).mp h), Int.min_eq_left (by omega)]
    rw [e1]; exact kk)
theorem cpy_N {F G : Nat → Nat} {sp dp k : Nat} : va_cpy (fun j => iI ((F j : Nat) : Int)) (fun j => iI ((G j : Nat) : Int)) sp dp k = fun j => iI ((va_cpy F G sp dp k j : Nat) : Int) := by
  funext j; unfold va_cpy; split <;> rfl
theorem r_copyN {idx a0 a n0 n1 sp dp k : Nat} {F G : Nat → Nat} (C : CT p s m args meth c cc own nL) (hK : KW g s) (hP : va_P g.1 vwCl ws H) (hD : va_D A ws) (hS : va_S A s.heap H locs) (w2 : Cond.methodLink own idx arraycopyName ∈ TB) (hls : lv_has ls nL lv) (q0 q1 : Nat) (he0 : ws[q0]? = some (a0, cN g n0 F)) (he1 : ws[q1]? = some (a, cN g n1 G)) (hb : sp + k ≤ n0 ∧ dp + k ≤ n1 ∧ k < 2147483648 ∧ n0 < 2147483648 ∧ n1 < 2147483648) (h1 : (rest.map fun v => v.category).sum + (nativeFrameWords "java/lang/System" "arraycopy" 5 + 11) ≤ R.locals) (h2 : 1 ≤ R.frames) (hd : decode cc pc = .ok (.invokestatic idx, 3))
    (kk : ∀ (H1 : Heap) (locs1 : List Loc), va_P g.1 vwCl (ws.set q1 (a, cN g n1 (va_cpy F G sp dp k))) H1 → va_D A (ws.set q1 (a, cN g n1 (va_cpy F G sp dp k))) → va_S A s.heap H1 locs1 → W p l e R s m args below meth c H1 locs1 cells slots Q (F0 m (pc + 3) ls rest)) : W p l e R s m args below meth c H locs cells slots Q (F0 m pc ls (nV k :: nV dp :: .ref a :: nV sp :: .ref a0 :: rest)) := by
  have z0 : ∀ n : Nat, n < 2147483648 → ¬ iI (n : Int) < 0 := fun n h => by rw [← iI_0, iI_lt (rgN h) (by decide)]; omega
  refine va_copyi C.1 C.2.1 (by rw [C.2.2.1, hls.1]) C.2.2.2.1 (C.2.2.2.2.1 _ w2) (C.2.2.2.2.1 _ ka_arraycopyName) (C.2.2.2.2.1 _ ks_arraycopyName) (C.2.2.2.2.1 _ kn_J10) hK.1 hP hD hS q0 q1 1 1 he0 he1 rfl rfl (ty := .int) rfl (z0 sp (by omega)) (z0 dp (by omega)) (z0 k (by omega)) (by rw [iI_cl (by omega), iI_cl (by omega)]; exact hb.1) (by rw [iI_cl (by omega), iI_cl (by omega)]; exact hb.2.1) (fun i _ => rfl) h2 h1 hd (fun H1 locs1 g1 g2 g3 => ?_)
  rw [iI_cl (by omega), iI_cl (by omega), iI_cl (by omega), cpy_N] at g1 g2
  exact kk H1 locs1 g1 g2 g3
/-! ===== calls: what is common ===== -/
abbrev rmOk (R : Room) (d maxL cells slots : Nat) : Prop := d + 1 ≤ R.frames ∧ 8 + (maxL + 11) + 40 * d ≤ R.locals ∧ cells ≤ R.cells ∧ slots ≤ R.slots
theorem rm_lt {d d' maxL : Nat} (h : d' < d) (hm : maxL ≤ 21) : rmOk (rD d) d' maxL 0 0 := by
  refine ⟨h, ?_, Nat.zero_le _, Nat.zero_le _⟩
  show _ ≤ 40 * d
  omega
theorem call_b {y : MethodName} {bytes : ByteArray} {maxL idx n d : Nat} {ret : Option FieldType} (C : CT p s m args meth c cc own nL) (w1 : Cond.code y bytes maxL ret ∈ TB) (w2 : Cond.methodLink own idx y ∈ TB) (w3 : Cond.initialized y.cls ∈ TB) (hn : NmOk y n) (hR : rmOk R d maxL cells slots) : CallB R s args own idx y bytes maxL ret (.code y bytes maxL ret :: TB) (rD d) 0 0 n :=
  callB_of n C.2.2.2.2.1 (goodTB (fun _ h => h) w1) rfl rfl rfl (C.2.2.2.2.1 _ w3) (C.2.2.2.2.1 _ w2) ⟨hn.1.1, hn.1.2, hn.2⟩ ⟨hR.1, hR.2.1⟩
theorem call_n {y : MethodName} {bytes : ByteArray} {maxL idx n d : Nat} {ret : Option FieldType} {host : String} (C : CT p s m args meth c cc own nL) (hK : KW g s) (w1 : Cond.code y bytes maxL ret ∈ TB) (w2 : (own, idx, y, host) ∈ NL) (w3 : Cond.initialized y.cls ∈ TB) (hn : NmOk y n) (hR : rmOk R d maxL cells slots) : va_CN R s args own idx y host bytes maxL ret (.code y bytes maxL ret :: TB) (rD d) 0 0 n :=
  va_cnB n C.2.2.2.2.1 (goodTB (fun _ h => h) w1) rfl rfl rfl (hK.2 _ w2) (C.2.2.2.2.1 _ w3) ⟨hn.1.1, hn.1.2, hn.2⟩ ⟨hR.1, hR.2.1⟩
theorem ro_fin {post : Int32 → Prop} {a : Array Value} {st0 : List Value} (hr : va_Run p l e R s m args below meth c H locs cells slots 0 0 (F0 m pc ls st0) rest (vp_Si post a) (fun _ => False))
    (kk : ∀ r : Int32, post r → W p l e R s m args below meth c H locs cells slots Q (F0 m (pc + 3) ls (.int r :: rest))) : W p l e R s m args below meth c H locs cells slots Q (F0 m pc ls st0) := by
  intro T hT X
  obtain ⟨v, st₀, t, T', L, h0, X', hL, e1, -, ⟨r, hv, hp, hh⟩, st⟩ := hr T hT X
  cases hv
  obtain ⟨t2, a1, b1⟩ := kk r hp T' (by rw [e1, hh, h0]) (Stand.forget X' (fun q h => (hL q h).elim))
  exact ⟨t2, st t2 a1, b1⟩
theorem ro_finL {post : Int64 → Prop} {a : Array Value} {st0 : List Value} (hr : va_Run p l e R s m args below meth c H locs cells slots 0 0 (F0 m pc ls st0) rest (vp_Sl post a) (fun _ => False))
    (kk : ∀ r : Int64, post r → W p l e R s m args below meth c H locs cells slots Q (F0 m (pc + 3) ls (.long r :: rest))) : W p l e R s m args below meth c H locs cells slots Q (F0 m pc ls st0) := by
  intro T hT X
  obtain ⟨v, st₀, t, T', L, h0, X', hL, e1, -, ⟨r, hv, hp, hh⟩, st⟩ := hr T hT X
  cases hv
  obtain ⟨t2, a1, b1⟩ := kk r hp T' (by rw [e1, hh, h0]) (Stand.forget X' (fun q h => (hL q h).elim))
  exact ⟨t2, st t2 a1, b1⟩
theorem ro_pre {As : List Value} (hK : KW g s) (hP : va_P g.1 vwCl ws H) : PreS s H (va_Pc As (fun U => KW g U ∧ va_P g.1 vwCl ws U.heap)) As :=
  ⟨fun a U f mk q => ⟨q.1, q.2.1.blind, q.2.2⟩, fun U hU hW => ⟨rfl, hK.pass hW, by rw [hU]; exact hP⟩⟩
theorem wr_pre {As : List Value} {w0 : va_W} (hK : KW g s) (hP : va_P g.1 vwCl ws H) (hD : va_D A ws) : PreS s H (va_Pc As (fun U => U.heap.size = H.size ∧ KW g U ∧ va_P g.1 vwCl ws U.heap ∧ va_D (fun _ => True) ws)) As :=
  ⟨fun a U f mk q => ⟨q.1, q.2.1, q.2.2.1.blind, q.2.2.2⟩, fun U hU hW => ⟨rfl, by rw [hU], hK.pass hW, by rw [hU]; exact hP, hD.weaken (fun _ _ _ _ => trivial)⟩⟩
/-! ===== calls that only read ===== -/
section RCR
variable {y : MethodName} {bytes : ByteArray} {maxL idx d : Nat} {ret : Option FieldType} {As st0 : List Value} {wc : va_W}
theorem ro_callS {post : Int32 → Prop} (C : CT p s m args meth c cc own nL) (hK : KW g s) (hM : ROi g l y bytes maxL ret d wc As post) (hP : va_P g.1 vwCl wc H) (w1 : Cond.code y bytes maxL ret ∈ TB) (w2 : Cond.methodLink own idx y ∈ TB) (w3 : Cond.initialized y.cls ∈ TB) (w4 : Cond.static y ∈ TB) (hn : NmOk y As.length) (hR : rmOk R d maxL cells slots) (hl : lv_has ls nL lv) (hst : st0 = As.reverse ++ rest) (hrm : (rest.map fun v => v.category).sum ≤ 8) (hd : decode cc pc = .ok (.invokestatic idx, 3))
    (kk : ∀ r : Int32, post r → W p l e R s m args below meth c H locs cells slots Q (F0 m (pc + 3) ls (.int r :: rest))) : W p l e R s m args below meth c H locs cells slots Q (F0 m pc ls st0) :=
  ro_fin (va_runS (As := As) (rest := rest) ⟨C.1, C.2.1, C.2.2.1, C.2.2.2.1, C.2.2.2.2.1⟩ hM ⟨call_b C w1 w2 w3 hn hR, C.2.2.2.2.1 _ w4⟩ (ro_pre hK hP) rfl rfl hl.1 hst (lv_room hrm) hd ⟨hR.2.2.1, hR.2.2.2⟩) kk
theorem ro_callSL {post : Int64 → Prop} (C : CT p s m args meth c cc own nL) (hK : KW g s) (hM : ROl g l y bytes maxL ret d wc As post) (hP : va_P g.1 vwCl wc H) (w1 : Cond.code y bytes maxL ret ∈ TB) (w2 : Cond.methodLink own idx y ∈ TB) (w3 : Cond.initialized y.cls ∈ TB) (w4 : Cond.static y ∈ TB) (hn : NmOk y As.length) (hR : rmOk R d maxL cells slots) (hl : lv_has ls nL lv) (hst : st0 = As.reverse ++ rest) (hrm : (rest.map fun v => v.category).sum ≤ 8) (hd : decode cc pc = .ok (.invokestatic idx, 3))
    (kk : ∀ r : Int64, post r → W p l e R s m args below meth c H locs cells slots Q (F0 m (pc + 3) ls (.long r :: rest))) : W p l e R s m args below meth c H locs cells slots Q (F0 m pc ls st0) :=
  ro_finL (va_runS (As := As) (rest := rest) ⟨C.1, C.2.1, C.2.2.1, C.2.2.2.1, C.2.2.2.2.1⟩ hM ⟨call_b C w1 w2 w3 hn hR, C.2.2.2.2.1 _ w4⟩ (ro_pre hK hP) rfl rfl hl.1 hst (lv_room hrm) hd ⟨hR.2.2.1, hR.2.2.2⟩) kk
theorem ro_callSN {post : Int32 → Prop} {host : String} (C : CT p s m args meth c cc own nL) (hK : KW g s) (hM : ROi g l y bytes maxL ret d wc As post) (hP : va_P g.1 vwCl wc H) (w1 : Cond.code y bytes maxL ret ∈ TB) (w2 : (own, idx, y, host) ∈ NL) (w3 : Cond.initialized y.cls ∈ TB) (w4 : Cond.static y ∈ TB) (hn : NmOk y As.length) (hR : rmOk R d maxL cells slots) (hl : lv_has ls nL lv) (hst : st0 = As.reverse ++ rest) (hrm : (rest.map fun v => v.category).sum ≤ 8) (hd : decode cc pc = .ok (.invokestatic idx, 3))
    (kk : ∀ r : Int32, post r → W p l e R s m args below meth c H locs cells slots Q (F0 m (pc + 3) ls (.int r :: rest))) : W p l e R s m args below meth c H locs cells slots Q (F0 m pc ls st0) :=
  ro_fin (va_runSN (As := As) (rest := rest) ⟨C.1, C.2.1, C.2.2.1, C.2.2.2.1, C.2.2.2.2.1⟩ hM ⟨call_n C hK w1 w2 w3 hn hR, C.2.2.2.2.1 _ w4, trivial⟩ (ro_pre hK hP) rfl rfl hl.1 hst (lv_room hrm) hd ⟨hR.2.2.1, hR.2.2.2⟩) kk
theorem ro_callV {post : Int32 → Prop} {b q0 ci : Nat} {q : vw_C} {fs : List Value} (C : CT p s m args meth c cc own nL) (hK : KW g s) (hM : ROi g l y bytes maxL ret d wc (.ref b :: As) post) (hP : va_P g.1 vwCl wc H) (hc : vwCl[ci]? = some q) (he : wc[q0]? = some (b, .inr (ci, fs))) (w1 : Cond.code y bytes maxL ret ∈ TB) (w2 : Cond.methodLink own idx y ∈ TB) (w3 : Cond.initialized y.cls ∈ TB) (w4 : Cond.instanceMethod y ∈ TB) (w5 : Cond.selects q.1 y y ∈ TB) (hn : NmOk y As.length) (hR : rmOk R d maxL cells slots) (hl : lv_has ls nL lv) (hst : st0 = As.reverse ++ .ref b :: rest) (hrm : (rest.map fun v => v.category).sum ≤ 8) (hd : decode cc pc = .ok (.invokevirtual idx, 3))
    (kk : ∀ r : Int32, post r → W p l e R s m args below meth c H locs cells slots Q (F0 m (pc + 3) ls (.int r :: rest))) : W p l e R s m args below meth c H locs cells slots Q (F0 m pc ls st0) :=
  ro_fin (va_runV (C := q.1) (As := As) (rest := rest) ⟨C.1, C.2.1, C.2.2.1, C.2.2.2.1, C.2.2.2.2.1⟩ hM ⟨call_b C w1 w2 w3 hn hR, C.2.2.2.2.1 _ w4, C.2.2.2.2.1 _ w5⟩ ⟨(ro_pre hK hP).1, va_recv hK.1 hP hc he, (ro_pre hK hP).2⟩ rfl rfl hl.1 hst (lv_room hrm) hd ⟨hR.2.2.1, hR.2.2.2⟩) kk
theorem ro_callVL {post : Int64 → Prop} {b q0 ci : Nat} {q : vw_C} {fs : List Value} (C : CT p s m args meth c cc own nL) (hK : KW g s) (hM : ROl g l y bytes maxL ret d wc (.ref b :: As) post) (hP : va_P g.1 vwCl wc H) (hc : vwCl[ci]? = some q) (he : wc[q0]? = some (b, .inr (ci, fs))) (w1 : Cond.code y bytes maxL ret ∈ TB) (w2 : Cond.methodLink own idx y ∈ TB) (w3 : Cond.initialized y.cls ∈ TB) (w4 : Cond.instanceMethod y ∈ TB) (w5 : Cond.selects q.1 y y ∈ TB) (hn : NmOk y As.length) (hR : rmOk R d maxL cells slots) (hl : lv_has ls nL lv) (hst : st0 = As.reverse ++ .ref b :: rest) (hrm : (rest.map fun v => v.category).sum ≤ 8) (hd : decode cc pc = .ok (.invokevirtual idx, 3))
    (kk : ∀ r : Int64, post r → W p l e R s m args below meth c H locs cells slots Q (F0 m (pc + 3) ls (.long r :: rest))) : W p l e R s m args below meth c H locs cells slots Q (F0 m pc ls st0) :=
  ro_finL (va_runV (C := q.1) (As := As) (rest := rest) ⟨C.1, C.2.1, C.2.2.1, C.2.2.2.1, C.2.2.2.2.1⟩ hM ⟨call_b C w1 w2 w3 hn hR, C.2.2.2.2.1 _ w4, C.2.2.2.2.1 _ w5⟩ ⟨(ro_pre hK hP).1, va_recv hK.1 hP hc he, (ro_pre hK hP).2⟩ rfl rfl hl.1 hst (lv_room hrm) hd ⟨hR.2.2.1, hR.2.2.2⟩) kk
/-! ===== calls that write ===== -/
theorem wr_callV {S : Type} {post : Int32 → S → Prop} {w' : S → va_W} {b q0 ci : Nat} {q : vw_C} {fs : List Value} (C : CT p s m args meth c cc own nL) (hK : KW g s) (hM : WRi g l y bytes maxL ret d wc (.ref b :: As) post w') (isC : List Nat) (hC : isC.map (fun i => ws[i]?) = wc.map some) (hf : ∀ u, (w' u).map Prod.fst = wc.map Prod.fst) (hnd : va_nd isC = true) (hP : va_P g.1 vwCl ws H) (hD : va_D A ws) (hS : va_S A s.heap H locs) (hA : ∀ q, s.heap.size ≤ q → A q) (hc : vwCl[ci]? = some q) (he : wc[q0]? = some (b, .inr (ci, fs))) (w1 : Cond.code y bytes maxL ret ∈ TB) (w2 : Cond.methodLink own idx y ∈ TB) (w3 : Cond.initialized y.cls ∈ TB) (w4 : Cond.instanceMethod y ∈ TB) (w5 : Cond.selects q.1 y y ∈ TB) (hn : NmOk y As.length) (hR : rmOk R d maxL cells slots) (hl : lv_has ls nL lv) (hst : st0 = As.reverse ++ .ref b :: rest) (hrm : (rest.map fun v => v.category).sum ≤ 8) (hd : decode cc pc = .ok (.invokevirtual idx, 3))
    (kk : ∀ (r : Int32) (u : S) (H1 : Heap) (locs1 : List Loc), post r u → va_P g.1 vwCl (rp ws isC (w' u)) H1 → va_D A (rp ws isC (w' u)) → va_S A s.heap H1 locs1 → W p l e R s m args below meth c H1 locs1 cells slots Q (F0 m (pc + 3) ls (.int r :: rest))) : W p l e R s m args below meth c H locs cells slots Q (F0 m pc ls st0) := by
  have hPc : va_P g.1 vwCl wc H := hP.sub isC (by
    have h2 : ∀ (js : List Nat) (v : va_W), js.map (fun i => ws[i]?) = v.map some → js.filterMap (fun i => ws[i]?) = v := by
      intro js
      induction js with
      | nil => intro v hv; cases v <;> simp at hv ⊢
      | cons j js ih =>
        intro v hv
        cases v with
        | nil => simp at hv
        | cons x v =>
          simp only [List.map_cons, List.cons.injEq] at hv
          rw [List.filterMap_cons, hv.1]
          simp [ih v hv.2]
    exact h2 isC wc hC)
  have hDc : va_D A wc := hD.sub isC hnd hC
  have hFc := va_free (wc := wc) hD hS hA isC hC
  refine va_calli (va_runV (C := q.1) (As := As) (rest := rest) ⟨C.1, C.2.1, C.2.2.1, C.2.2.2.1, C.2.2.2.2.1⟩ (hM H.size) ⟨call_b C w1 w2 w3 hn hR, C.2.2.2.2.1 _ w4, C.2.2.2.2.1 _ w5⟩ ⟨(wr_pre (w0 := wc) (As := .ref b :: As) hK hPc hDc).1, va_recv hK.1 hPc hc he, (wr_pre (w0 := wc) hK hPc hDc).2⟩ rfl rfl hl.1 hst (lv_room hrm) hd ⟨hR.2.2.1, hR.2.2.2⟩) hS (fun q _ h => hFc q h) hFc (fun r u t H1 locs1 ht hvm hw hB hz1 hk1 hS1 => ?_)
  have hB1 : va_P g.1 vwCl (w' u) H1 := by rw [← ht]; exact hB
  obtain ⟨h1, h2⟩ := va_frame hP hD isC hC (hf u) hk1 hB1
  exact kk r u H1 locs1 hw h1 h2 hS1
theorem wr_callVL {S : Type} {post : Int64 → S → Prop} {w' : S → va_W} {b q0 ci : Nat} {q : vw_C} {fs : List Value} (C : CT p s m args meth c cc own nL) (hK : KW g s) (hM : WRl g l y bytes maxL ret d wc (.ref b :: As) post w') (isC : List Nat) (hC : isC.map (fun i => ws[i]?) = wc.map some) (hf : ∀ u, (w' u).map Prod.fst = wc.map Prod.fst) (hnd : va_nd isC = true) (hP : va_P g.1 vwCl ws H) (hD : va_D A ws) (hS : va_S A s.heap H locs) (hA : ∀ q, s.heap.size ≤ q → A q) (hc : vwCl[ci]? = some q) (he : wc[q0]? = some (b, .inr (ci, fs))) (w1 : Cond.code y bytes maxL ret ∈ TB) (w2 : Cond.methodLink own idx y ∈ TB) (w3 : Cond.initialized y.cls ∈ TB) (w4 : Cond.instanceMethod y ∈ TB) (w5 : Cond.selects q.1 y y ∈ TB) (hn : NmOk y As.length) (hR : rmOk R d maxL cells slots) (hl : lv_has ls nL lv) (hst : st0 = As.reverse ++ .ref b :: rest) (hrm : (rest.map fun v => v.category).sum ≤ 8) (hd : decode cc pc = .ok (.invokevirtual idx, 3))
    (kk : ∀ (r : Int64) (u : S) (H1 : Heap) (locs1 : List Loc), post r u → va_P g.1 vwCl (rp ws isC (w' u)) H1 → va_D A (rp ws isC (w' u)) → va_S A s.heap H1 locs1 → W p l e R s m args below meth c H1 locs1 cells slots Q (F0 m (pc + 3) ls (.long r :: rest))) : W p l e R s m args below meth c H locs cells slots Q (F0 m pc ls st0) := by
  have hPc : va_P g.1 vwCl wc H := hP.sub isC (by
    have h2 : ∀ (js : List Nat) (v : va_W), js.map (fun i => ws[i]?) = v.map some → js.filterMap (fun i => ws[i]?) = v := by
      intro js
      induction js with
      | nil => intro v hv; cases v <;> simp at hv ⊢
      | cons j js ih =>
        intro v hv
        cases v with
        | nil => simp at hv
        | cons x v =>
          simp only [List.map_cons, List.cons.injEq] at hv
          rw [List.filterMap_cons, hv.1]
          simp [ih v hv.2]
    exact h2 isC wc hC)
  have hDc : va_D A wc := hD.sub isC hnd hC
  have hFc := va_free (wc := wc) hD hS hA isC hC
  refine va_calll (va_runV (C := q.1) (As := As) (rest := rest) ⟨C.1, C.2.1, C.2.2.1, C.2.2.2.1, C.2.2.2.2.1⟩ (hM H.size) ⟨call_b C w1 w2 w3 hn hR, C.2.2.2.2.1 _ w4, C.2.2.2.2.1 _ w5⟩ ⟨(wr_pre (w0 := wc) (As := .ref b :: As) hK hPc hDc).1, va_recv hK.1 hPc hc he, (wr_pre (w0 := wc) hK hPc hDc).2⟩ rfl rfl hl.1 hst (lv_room hrm) hd ⟨hR.2.2.1, hR.2.2.2⟩) hS (fun q _ h => hFc q h) hFc (fun r u t H1 locs1 ht hvm hw hB hz1 hk1 hS1 => ?_)
  have hB1 : va_P g.1 vwCl (w' u) H1 := by rw [← ht]; exact hB
  obtain ⟨h1, h2⟩ := va_frame hP hD isC hC (hf u) hk1 hB1
  exact kk r u H1 locs1 hw h1 h2 hS1
theorem wr_callVV {S : Type} {post : S → Prop} {w' : S → va_W} {b q0 ci : Nat} {q : vw_C} {fs : List Value} (C : CT p s m args meth c cc own nL) (hK : KW g s) (hM : WRv g l y bytes maxL d wc (.ref b :: As) post w') (isC : List Nat) (hC : isC.map (fun i => ws[i]?) = wc.map some) (hf : ∀ u, (w' u).map Prod.fst = wc.map Prod.fst) (hnd : va_nd isC = true) (hP : va_P g.1 vwCl ws H) (hD : va_D A ws) (hS : va_S A s.heap H locs) (hA : ∀ q, s.heap.size ≤ q → A q) (hc : vwCl[ci]? = some q) (he : wc[q0]? = some (b, .inr (ci, fs))) (w1 : Cond.code y bytes maxL none ∈ TB) (w2 : Cond.methodLink own idx y ∈ TB) (w3 : Cond.initialized y.cls ∈ TB) (w4 : Cond.instanceMethod y ∈ TB) (w5 : Cond.selects q.1 y y ∈ TB) (hn : NmOk y As.length) (hR : rmOk R d maxL cells slots) (hl : lv_has ls nL lv) (hst : st0 = As.reverse ++ .ref b :: rest) (hrm : (rest.map fun v => v.category).sum ≤ 8) (hd : decode cc pc = .ok (.invokevirtual idx, 3))
    (kk : ∀ (u : S) (H1 : Heap) (locs1 : List Loc), post u → va_P g.1 vwCl (rp ws isC (w' u)) H1 → va_D A (rp ws isC (w' u)) → va_S A s.heap H1 locs1 → W p l e R s m args below meth c H1 locs1 cells slots Q (F0 m (pc + 3) ls rest)) : W p l e R s m args below meth c H locs cells slots Q (F0 m pc ls st0) := by
  have hPc : va_P g.1 vwCl wc H := hP.sub isC (by
    have h2 : ∀ (js : List Nat) (v : va_W), js.map (fun i => ws[i]?) = v.map some → js.filterMap (fun i => ws[i]?) = v := by
      intro js
      induction js with
      | nil => intro v hv; cases v <;> simp at hv ⊢
      | cons j js ih =>
        intro v hv
        cases v with
        | nil => simp at hv
        | cons x v =>
          simp only [List.map_cons, List.cons.injEq] at hv
          rw [List.filterMap_cons, hv.1]
          simp [ih v hv.2]
    exact h2 isC wc hC)
  have hDc : va_D A wc := hD.sub isC hnd hC
  have hFc := va_free (wc := wc) hD hS hA isC hC
  refine va_callv (va_runV (C := q.1) (As := As) (rest := rest) ⟨C.1, C.2.1, C.2.2.1, C.2.2.2.1, C.2.2.2.2.1⟩ (hM H.size) ⟨call_b C w1 w2 w3 hn hR, C.2.2.2.2.1 _ w4, C.2.2.2.2.1 _ w5⟩ ⟨(wr_pre (w0 := wc) (As := .ref b :: As) hK hPc hDc).1, va_recv hK.1 hPc hc he, (wr_pre (w0 := wc) hK hPc hDc).2⟩ rfl rfl hl.1 hst (lv_room hrm) hd ⟨hR.2.2.1, hR.2.2.2⟩) hS (fun q _ h => hFc q h) hFc (fun u t H1 locs1 ht hvm hw hB hz1 hk1 hS1 => ?_)
  have hB1 : va_P g.1 vwCl (w' u) H1 := by rw [← ht]; exact hB
  obtain ⟨h1, h2⟩ := va_frame hP hD isC hC (hf u) hk1 hB1
  exact kk u H1 locs1 hw h1 h2 hS1
end RCR
end RC
end
section
theorem nk_X0_init : NmOk yX0_init 1 := ⟨⟨by decide +kernel, by decide +kernel⟩, by decide +kernel⟩
theorem nk_X0_find : NmOk yX0_find 4 := ⟨⟨by decide +kernel, by decide +kernel⟩, by decide +kernel⟩
theorem nk_X0_leastFlour : NmOk yX0_leastFlour 0 := ⟨⟨by decide +kernel, by decide +kernel⟩, by decide +kernel⟩
theorem nk_X0_signAt : NmOk yX0_signAt 1 := ⟨⟨by decide +kernel, by decide +kernel⟩, by decide +kernel⟩
theorem nk_X0_extend : NmOk yX0_extend 3 := ⟨⟨by decide +kernel, by decide +kernel⟩, by decide +kernel⟩
theorem nk_X0_staysApart : NmOk yX0_staysApart 2 := ⟨⟨by decide +kernel, by decide +kernel⟩, by decide +kernel⟩
theorem nk_X1_init : NmOk yX1_init 0 := ⟨⟨by decide +kernel, by decide +kernel⟩, by decide +kernel⟩
theorem nk_X1_size : NmOk yX1_size 0 := ⟨⟨by decide +kernel, by decide +kernel⟩, by decide +kernel⟩
theorem nk_X1_flour : NmOk yX1_flour 0 := ⟨⟨by decide +kernel, by decide +kernel⟩, by decide +kernel⟩
theorem nk_X1_isFull : NmOk yX1_isFull 0 := ⟨⟨by decide +kernel, by decide +kernel⟩, by decide +kernel⟩
theorem nk_X1_holds : NmOk yX1_holds 1 := ⟨⟨by decide +kernel, by decide +kernel⟩, by decide +kernel⟩
theorem nk_X1_part : NmOk yX1_part 2 := ⟨⟨by decide +kernel, by decide +kernel⟩, by decide +kernel⟩
theorem nk_X1_clear : NmOk yX1_clear 0 := ⟨⟨by decide +kernel, by decide +kernel⟩, by decide +kernel⟩
theorem nk_X1_useFlour : NmOk yX1_useFlour 1 := ⟨⟨by decide +kernel, by decide +kernel⟩, by decide +kernel⟩
theorem nk_X1_add : NmOk yX1_add 3 := ⟨⟨by decide +kernel, by decide +kernel⟩, by decide +kernel⟩
theorem nk_X1_addBite : NmOk yX1_addBite 1 := ⟨⟨by decide +kernel, by decide +kernel⟩, by decide +kernel⟩
theorem nk_X1_passDay : NmOk yX1_passDay 0 := ⟨⟨by decide +kernel, by decide +kernel⟩, by decide +kernel⟩
theorem nk_X1_remove : NmOk yX1_remove 1 := ⟨⟨by decide +kernel, by decide +kernel⟩, by decide +kernel⟩
theorem nk_X1_copyTo : NmOk yX1_copyTo 2 := ⟨⟨by decide +kernel, by decide +kernel⟩, by decide +kernel⟩
theorem nk_X1_copyFrom : NmOk yX1_copyFrom 2 := ⟨⟨by decide +kernel, by decide +kernel⟩, by decide +kernel⟩
theorem nk_X1_change : NmOk yX1_change 3 := ⟨⟨by decide +kernel, by decide +kernel⟩, by decide +kernel⟩
theorem nk_X2_power : NmOk yX2_power 2 := ⟨⟨by decide +kernel, by decide +kernel⟩, by decide +kernel⟩
theorem nk_X2_choose : NmOk yX2_choose 2 := ⟨⟨by decide +kernel, by decide +kernel⟩, by decide +kernel⟩
theorem nk_X2_lowest : NmOk yX2_lowest 3 := ⟨⟨by decide +kernel, by decide +kernel⟩, by decide +kernel⟩
theorem nk_X2_commonDivisor : NmOk yX2_commonDivisor 2 := ⟨⟨by decide +kernel, by decide +kernel⟩, by decide +kernel⟩
theorem nk_X3_init : NmOk yX3_init 0 := ⟨⟨by decide +kernel, by decide +kernel⟩, by decide +kernel⟩
theorem nk_X3_fill : NmOk yX3_fill 4 := ⟨⟨by decide +kernel, by decide +kernel⟩, by decide +kernel⟩
theorem nk_X3_markBitten : NmOk yX3_markBitten 3 := ⟨⟨by decide +kernel, by decide +kernel⟩, by decide +kernel⟩
theorem nk_X3_sizeOf : NmOk yX3_sizeOf 1 := ⟨⟨by decide +kernel, by decide +kernel⟩, by decide +kernel⟩
theorem nk_X3_holds : NmOk yX3_holds 2 := ⟨⟨by decide +kernel, by decide +kernel⟩, by decide +kernel⟩
theorem nk_X3_meet : NmOk yX3_meet 2 := ⟨⟨by decide +kernel, by decide +kernel⟩, by decide +kernel⟩
theorem nk_X3_mark : NmOk yX3_mark 2 := ⟨⟨by decide +kernel, by decide +kernel⟩, by decide +kernel⟩
theorem nk_X4_init : NmOk yX4_init 0 := ⟨⟨by decide +kernel, by decide +kernel⟩, by decide +kernel⟩
theorem nk_X4_firstFault : NmOk yX4_firstFault 2 := ⟨⟨by decide +kernel, by decide +kernel⟩, by decide +kernel⟩
theorem nk_X4_readItem : NmOk yX4_readItem 2 := ⟨⟨by decide +kernel, by decide +kernel⟩, by decide +kernel⟩
theorem nk_X4_readNumbers : NmOk yX4_readNumbers 2 := ⟨⟨by decide +kernel, by decide +kernel⟩, by decide +kernel⟩
theorem nk_X4_readNumber : NmOk yX4_readNumber 1 := ⟨⟨by decide +kernel, by decide +kernel⟩, by decide +kernel⟩
theorem nk_X4_isFigure : NmOk yX4_isFigure 1 := ⟨⟨by decide +kernel, by decide +kernel⟩, by decide +kernel⟩
theorem nk_X5_init : NmOk yX5_init 1 := ⟨⟨by decide +kernel, by decide +kernel⟩, by decide +kernel⟩
theorem nk_X5_size : NmOk yX5_size 0 := ⟨⟨by decide +kernel, by decide +kernel⟩, by decide +kernel⟩
theorem nk_X5_isFull : NmOk yX5_isFull 0 := ⟨⟨by decide +kernel, by decide +kernel⟩, by decide +kernel⟩
theorem nk_X5_clear : NmOk yX5_clear 0 := ⟨⟨by decide +kernel, by decide +kernel⟩, by decide +kernel⟩
theorem nk_X5_push : NmOk yX5_push 1 := ⟨⟨by decide +kernel, by decide +kernel⟩, by decide +kernel⟩
theorem nk_X5_popInto : NmOk yX5_popInto 1 := ⟨⟨by decide +kernel, by decide +kernel⟩, by decide +kernel⟩
theorem nk_X5_dropOldest : NmOk yX5_dropOldest 0 := ⟨⟨by decide +kernel, by decide +kernel⟩, by decide +kernel⟩
theorem nk_X6_of : NmOk yX6_of 3 := ⟨⟨by decide +kernel, by decide +kernel⟩, by decide +kernel⟩
theorem nk_X6_seeds : NmOk yX6_seeds 1 := ⟨⟨by decide +kernel, by decide +kernel⟩, by decide +kernel⟩
theorem nk_X6_cuts : NmOk yX6_cuts 1 := ⟨⟨by decide +kernel, by decide +kernel⟩, by decide +kernel⟩
theorem nk_X6_filling : NmOk yX6_filling 1 := ⟨⟨by decide +kernel, by decide +kernel⟩, by decide +kernel⟩
theorem nk_X6_flour : NmOk yX6_flour 1 := ⟨⟨by decide +kernel, by decide +kernel⟩, by decide +kernel⟩
theorem nk_X6_bitten : NmOk yX6_bitten 1 := ⟨⟨by decide +kernel, by decide +kernel⟩, by decide +kernel⟩
theorem nk_X7_init : NmOk yX7_init 0 := ⟨⟨by decide +kernel, by decide +kernel⟩, by decide +kernel⟩
theorem nk_X7_length : NmOk yX7_length 0 := ⟨⟨by decide +kernel, by decide +kernel⟩, by decide +kernel⟩
theorem nk_X7_clear : NmOk yX7_clear 0 := ⟨⟨by decide +kernel, by decide +kernel⟩, by decide +kernel⟩
theorem nk_X7_hasRoom : NmOk yX7_hasRoom 1 := ⟨⟨by decide +kernel, by decide +kernel⟩, by decide +kernel⟩
theorem nk_X7_append : NmOk yX7_append 2 := ⟨⟨by decide +kernel, by decide +kernel⟩, by decide +kernel⟩
theorem nk_X7_byteAt : NmOk yX7_byteAt 1 := ⟨⟨by decide +kernel, by decide +kernel⟩, by decide +kernel⟩
theorem nk_X8_init : NmOk yX8_init 0 := ⟨⟨by decide +kernel, by decide +kernel⟩, by decide +kernel⟩
theorem nk_X8_clear : NmOk yX8_clear 0 := ⟨⟨by decide +kernel, by decide +kernel⟩, by decide +kernel⟩
theorem nk_X8_addWord : NmOk yX8_addWord 4 := ⟨⟨by decide +kernel, by decide +kernel⟩, by decide +kernel⟩
theorem nk_X8_setLosses : NmOk yX8_setLosses 2 := ⟨⟨by decide +kernel, by decide +kernel⟩, by decide +kernel⟩
theorem nk_X8_addCarrier : NmOk yX8_addCarrier 2 := ⟨⟨by decide +kernel, by decide +kernel⟩, by decide +kernel⟩
theorem nk_X8_addBaker : NmOk yX8_addBaker 1 := ⟨⟨by decide +kernel, by decide +kernel⟩, by decide +kernel⟩
theorem nk_X8_words : NmOk yX8_words 0 := ⟨⟨by decide +kernel, by decide +kernel⟩, by decide +kernel⟩
theorem nk_X8_carriers : NmOk yX8_carriers 0 := ⟨⟨by decide +kernel, by decide +kernel⟩, by decide +kernel⟩
theorem nk_X8_bakers : NmOk yX8_bakers 0 := ⟨⟨by decide +kernel, by decide +kernel⟩, by decide +kernel⟩
theorem nk_X8_signOf : NmOk yX8_signOf 1 := ⟨⟨by decide +kernel, by decide +kernel⟩, by decide +kernel⟩
theorem nk_X8_worthOf : NmOk yX8_worthOf 1 := ⟨⟨by decide +kernel, by decide +kernel⟩, by decide +kernel⟩
theorem nk_X8_milesOf : NmOk yX8_milesOf 1 := ⟨⟨by decide +kernel, by decide +kernel⟩, by decide +kernel⟩
theorem nk_X8_readAs : NmOk yX8_readAs 1 := ⟨⟨by decide +kernel, by decide +kernel⟩, by decide +kernel⟩
theorem nk_X8_aged : NmOk yX8_aged 2 := ⟨⟨by decide +kernel, by decide +kernel⟩, by decide +kernel⟩
theorem nk_X8_turned : NmOk yX8_turned 3 := ⟨⟨by decide +kernel, by decide +kernel⟩, by decide +kernel⟩
theorem nk_X8_waysRead : NmOk yX8_waysRead 3 := ⟨⟨by decide +kernel, by decide +kernel⟩, by decide +kernel⟩
theorem nk_X8_worthOfSet : NmOk yX8_worthOfSet 1 := ⟨⟨by decide +kernel, by decide +kernel⟩, by decide +kernel⟩
theorem nk_X8_flourOfSet : NmOk yX8_flourOfSet 1 := ⟨⟨by decide +kernel, by decide +kernel⟩, by decide +kernel⟩
theorem nk_X8_bakersKnowing : NmOk yX8_bakersKnowing 1 := ⟨⟨by decide +kernel, by decide +kernel⟩, by decide +kernel⟩
theorem nk_X9_init : NmOk yX9_init 0 := ⟨⟨by decide +kernel, by decide +kernel⟩, by decide +kernel⟩
theorem nk_X9_write : NmOk yX9_write 2 := ⟨⟨by decide +kernel, by decide +kernel⟩, by decide +kernel⟩
theorem nk_X9_wipe : NmOk yX9_wipe 0 := ⟨⟨by decide +kernel, by decide +kernel⟩, by decide +kernel⟩
theorem nk_X9_fault : NmOk yX9_fault 0 := ⟨⟨by decide +kernel, by decide +kernel⟩, by decide +kernel⟩
theorem nk_X9_lay : NmOk yX9_lay 0 := ⟨⟨by decide +kernel, by decide +kernel⟩, by decide +kernel⟩
theorem nk_X9_word : NmOk yX9_word 2 := ⟨⟨by decide +kernel, by decide +kernel⟩, by decide +kernel⟩
theorem nk_X9_bake : NmOk yX9_bake 2 := ⟨⟨by decide +kernel, by decide +kernel⟩, by decide +kernel⟩
theorem nk_X9_day : NmOk yX9_day 0 := ⟨⟨by decide +kernel, by decide +kernel⟩, by decide +kernel⟩
theorem nk_X9_bite : NmOk yX9_bite 1 := ⟨⟨by decide +kernel, by decide +kernel⟩, by decide +kernel⟩
theorem nk_X9_take : NmOk yX9_take 1 := ⟨⟨by decide +kernel, by decide +kernel⟩, by decide +kernel⟩
theorem nk_X9_undo : NmOk yX9_undo 0 := ⟨⟨by decide +kernel, by decide +kernel⟩, by decide +kernel⟩
theorem nk_X9_loaf : NmOk yX9_loaf 2 := ⟨⟨by decide +kernel, by decide +kernel⟩, by decide +kernel⟩
theorem nk_X9_becomes : NmOk yX9_becomes 3 := ⟨⟨by decide +kernel, by decide +kernel⟩, by decide +kernel⟩
theorem nk_X9_mayBe : NmOk yX9_mayBe 3 := ⟨⟨by decide +kernel, by decide +kernel⟩, by decide +kernel⟩
theorem nk_X9_can : NmOk yX9_can 4 := ⟨⟨by decide +kernel, by decide +kernel⟩, by decide +kernel⟩
theorem nk_X9_was : NmOk yX9_was 3 := ⟨⟨by decide +kernel, by decide +kernel⟩, by decide +kernel⟩
theorem nk_X9_half : NmOk yX9_half 3 := ⟨⟨by decide +kernel, by decide +kernel⟩, by decide +kernel⟩
theorem nk_X9_code : NmOk yX9_code 4 := ⟨⟨by decide +kernel, by decide +kernel⟩, by decide +kernel⟩
theorem nk_X9_sent : NmOk yX9_sent 4 := ⟨⟨by decide +kernel, by decide +kernel⟩, by decide +kernel⟩
theorem nk_X9_whom : NmOk yX9_whom 2 := ⟨⟨by decide +kernel, by decide +kernel⟩, by decide +kernel⟩
theorem nk_X9_two : NmOk yX9_two 5 := ⟨⟨by decide +kernel, by decide +kernel⟩, by decide +kernel⟩
theorem nk_X9_said : NmOk yX9_said 2 := ⟨⟨by decide +kernel, by decide +kernel⟩, by decide +kernel⟩
theorem nk_X9_told : NmOk yX9_told 2 := ⟨⟨by decide +kernel, by decide +kernel⟩, by decide +kernel⟩
theorem nk_X9_month : NmOk yX9_month 3 := ⟨⟨by decide +kernel, by decide +kernel⟩, by decide +kernel⟩
theorem nk_X9_keep : NmOk yX9_keep 0 := ⟨⟨by decide +kernel, by decide +kernel⟩, by decide +kernel⟩
theorem nk_X9_back : NmOk yX9_back 0 := ⟨⟨by decide +kernel, by decide +kernel⟩, by decide +kernel⟩
theorem nk_X9_count : NmOk yX9_count 1 := ⟨⟨by decide +kernel, by decide +kernel⟩, by decide +kernel⟩
theorem nk_X9_within : NmOk yX9_within 3 := ⟨⟨by decide +kernel, by decide +kernel⟩, by decide +kernel⟩
theorem nk_X9_isSign : NmOk yX9_isSign 1 := ⟨⟨by decide +kernel, by decide +kernel⟩, by decide +kernel⟩
theorem nk_X9_isAge : NmOk yX9_isAge 1 := ⟨⟨by decide +kernel, by decide +kernel⟩, by decide +kernel⟩
theorem nk_X9_isLoss : NmOk yX9_isLoss 2 := ⟨⟨by decide +kernel, by decide +kernel⟩, by decide +kernel⟩
theorem nk_X9_isChoice : NmOk yX9_isChoice 1 := ⟨⟨by decide +kernel, by decide +kernel⟩, by decide +kernel⟩
theorem nk_X9_isWord : NmOk yX9_isWord 1 := ⟨⟨by decide +kernel, by decide +kernel⟩, by decide +kernel⟩
theorem nk_X9_isCarrier : NmOk yX9_isCarrier 1 := ⟨⟨by decide +kernel, by decide +kernel⟩, by decide +kernel⟩
theorem nk_X9_wordBehind : NmOk yX9_wordBehind 1 := ⟨⟨by decide +kernel, by decide +kernel⟩, by decide +kernel⟩
theorem nk_X9_flourOf : NmOk yX9_flourOf 2 := ⟨⟨by decide +kernel, by decide +kernel⟩, by decide +kernel⟩
theorem nk_X9_signNow : NmOk yX9_signNow 1 := ⟨⟨by decide +kernel, by decide +kernel⟩, by decide +kernel⟩
theorem nk_X9_readingOf : NmOk yX9_readingOf 1 := ⟨⟨by decide +kernel, by decide +kernel⟩, by decide +kernel⟩
theorem nk_X9_drawOf : NmOk yX9_drawOf 2 := ⟨⟨by decide +kernel, by decide +kernel⟩, by decide +kernel⟩
theorem nk_X9_at : NmOk yX9_at 2 := ⟨⟨by decide +kernel, by decide +kernel⟩, by decide +kernel⟩
theorem nk_X10_init : NmOk yX10_init 0 := ⟨⟨by decide +kernel, by decide +kernel⟩, by decide +kernel⟩
theorem nk_X10_in : NmOk yX10_in 3 := ⟨⟨by decide +kernel, by decide +kernel⟩, by decide +kernel⟩
theorem nk_X10_write : NmOk yX10_write 2 := ⟨⟨by decide +kernel, by decide +kernel⟩, by decide +kernel⟩
theorem nk_X10_wipe : NmOk yX10_wipe 0 := ⟨⟨by decide +kernel, by decide +kernel⟩, by decide +kernel⟩
theorem nk_X10_number : NmOk yX10_number 0 := ⟨⟨by decide +kernel, by decide +kernel⟩, by decide +kernel⟩
theorem nk_X10_parts : NmOk yX10_parts 1 := ⟨⟨by decide +kernel, by decide +kernel⟩, by decide +kernel⟩
theorem nk_X10_isIn : NmOk yX10_isIn 3 := ⟨⟨by decide +kernel, by decide +kernel⟩, by decide +kernel⟩
theorem nk_X10_isItem : NmOk yX10_isItem 0 := ⟨⟨by decide +kernel, by decide +kernel⟩, by decide +kernel⟩
theorem nk_X10_isGood : NmOk yX10_isGood 1 := ⟨⟨by decide +kernel, by decide +kernel⟩, by decide +kernel⟩
theorem nk_X10_begins : NmOk yX10_begins 0 := ⟨⟨by decide +kernel, by decide +kernel⟩, by decide +kernel⟩
theorem nk_X10_takes : NmOk yX10_takes 0 := ⟨⟨by decide +kernel, by decide +kernel⟩, by decide +kernel⟩
theorem nk_X10_fault : NmOk yX10_fault 0 := ⟨⟨by decide +kernel, by decide +kernel⟩, by decide +kernel⟩
theorem nk_X10_lay : NmOk yX10_lay 0 := ⟨⟨by decide +kernel, by decide +kernel⟩, by decide +kernel⟩
theorem nk_X10_isWord : NmOk yX10_isWord 1 := ⟨⟨by decide +kernel, by decide +kernel⟩, by decide +kernel⟩
theorem nk_X10_flourOf : NmOk yX10_flourOf 1 := ⟨⟨by decide +kernel, by decide +kernel⟩, by decide +kernel⟩
theorem nk_X10_word : NmOk yX10_word 2 := ⟨⟨by decide +kernel, by decide +kernel⟩, by decide +kernel⟩
theorem nk_X10_aged : NmOk yX10_aged 2 := ⟨⟨by decide +kernel, by decide +kernel⟩, by decide +kernel⟩
theorem nk_X10_bitten : NmOk yX10_bitten 2 := ⟨⟨by decide +kernel, by decide +kernel⟩, by decide +kernel⟩
theorem nk_X10_become : NmOk yX10_become 3 := ⟨⟨by decide +kernel, by decide +kernel⟩, by decide +kernel⟩
theorem nk_X10_read : NmOk yX10_read 1 := ⟨⟨by decide +kernel, by decide +kernel⟩, by decide +kernel⟩
theorem nk_X10_baked : NmOk yX10_baked 2 := ⟨⟨by decide +kernel, by decide +kernel⟩, by decide +kernel⟩
theorem nk_X10_hasNow : NmOk yX10_hasNow 1 := ⟨⟨by decide +kernel, by decide +kernel⟩, by decide +kernel⟩
theorem nk_X10_known : NmOk yX10_known 2 := ⟨⟨by decide +kernel, by decide +kernel⟩, by decide +kernel⟩
theorem nk_X10_used : NmOk yX10_used 2 := ⟨⟨by decide +kernel, by decide +kernel⟩, by decide +kernel⟩
theorem nk_X10_bake : NmOk yX10_bake 2 := ⟨⟨by decide +kernel, by decide +kernel⟩, by decide +kernel⟩
theorem nk_X10_ages : NmOk yX10_ages 1 := ⟨⟨by decide +kernel, by decide +kernel⟩, by decide +kernel⟩
theorem nk_X10_day : NmOk yX10_day 0 := ⟨⟨by decide +kernel, by decide +kernel⟩, by decide +kernel⟩
theorem nk_X10_isLoaf : NmOk yX10_isLoaf 1 := ⟨⟨by decide +kernel, by decide +kernel⟩, by decide +kernel⟩
theorem nk_X10_bite : NmOk yX10_bite 1 := ⟨⟨by decide +kernel, by decide +kernel⟩, by decide +kernel⟩
theorem nk_X10_take : NmOk yX10_take 1 := ⟨⟨by decide +kernel, by decide +kernel⟩, by decide +kernel⟩
theorem nk_X10_undo : NmOk yX10_undo 0 := ⟨⟨by decide +kernel, by decide +kernel⟩, by decide +kernel⟩
theorem nk_X10_loaf : NmOk yX10_loaf 2 := ⟨⟨by decide +kernel, by decide +kernel⟩, by decide +kernel⟩
theorem nk_X10_isSign : NmOk yX10_isSign 1 := ⟨⟨by decide +kernel, by decide +kernel⟩, by decide +kernel⟩
theorem nk_X10_isSpan : NmOk yX10_isSpan 2 := ⟨⟨by decide +kernel, by decide +kernel⟩, by decide +kernel⟩
theorem nk_X10_becomes : NmOk yX10_becomes 3 := ⟨⟨by decide +kernel, by decide +kernel⟩, by decide +kernel⟩
theorem nk_X10_isAble : NmOk yX10_isAble 4 := ⟨⟨by decide +kernel, by decide +kernel⟩, by decide +kernel⟩
theorem nk_X10_mayBe : NmOk yX10_mayBe 3 := ⟨⟨by decide +kernel, by decide +kernel⟩, by decide +kernel⟩
theorem nk_X10_can : NmOk yX10_can 4 := ⟨⟨by decide +kernel, by decide +kernel⟩, by decide +kernel⟩
theorem nk_X10_was : NmOk yX10_was 3 := ⟨⟨by decide +kernel, by decide +kernel⟩, by decide +kernel⟩
theorem nk_X10_half : NmOk yX10_half 3 := ⟨⟨by decide +kernel, by decide +kernel⟩, by decide +kernel⟩
theorem nk_X10_isApart : NmOk yX10_isApart 2 := ⟨⟨by decide +kernel, by decide +kernel⟩, by decide +kernel⟩
theorem nk_X10_codes : NmOk yX10_codes 3 := ⟨⟨by decide +kernel, by decide +kernel⟩, by decide +kernel⟩
theorem nk_X10_code : NmOk yX10_code 4 := ⟨⟨by decide +kernel, by decide +kernel⟩, by decide +kernel⟩
theorem nk_X10_isCarrier : NmOk yX10_isCarrier 1 := ⟨⟨by decide +kernel, by decide +kernel⟩, by decide +kernel⟩
theorem nk_X10_power : NmOk yX10_power 2 := ⟨⟨by decide +kernel, by decide +kernel⟩, by decide +kernel⟩
theorem nk_X10_reads : NmOk yX10_reads 3 := ⟨⟨by decide +kernel, by decide +kernel⟩, by decide +kernel⟩
theorem nk_X10_tens : NmOk yX10_tens 1 := ⟨⟨by decide +kernel, by decide +kernel⟩, by decide +kernel⟩
theorem nk_X10_lowest : NmOk yX10_lowest 2 := ⟨⟨by decide +kernel, by decide +kernel⟩, by decide +kernel⟩
theorem nk_X10_isAge : NmOk yX10_isAge 1 := ⟨⟨by decide +kernel, by decide +kernel⟩, by decide +kernel⟩
theorem nk_X10_sent : NmOk yX10_sent 4 := ⟨⟨by decide +kernel, by decide +kernel⟩, by decide +kernel⟩
theorem nk_X10_whom : NmOk yX10_whom 2 := ⟨⟨by decide +kernel, by decide +kernel⟩, by decide +kernel⟩
theorem nk_X10_two : NmOk yX10_two 5 := ⟨⟨by decide +kernel, by decide +kernel⟩, by decide +kernel⟩
theorem nk_X10_said : NmOk yX10_said 2 := ⟨⟨by decide +kernel, by decide +kernel⟩, by decide +kernel⟩
theorem nk_X10_told : NmOk yX10_told 2 := ⟨⟨by decide +kernel, by decide +kernel⟩, by decide +kernel⟩
theorem nk_X10_month : NmOk yX10_month 3 := ⟨⟨by decide +kernel, by decide +kernel⟩, by decide +kernel⟩
theorem nk_X10_copies : NmOk yX10_copies 2 := ⟨⟨by decide +kernel, by decide +kernel⟩, by decide +kernel⟩
theorem nk_X10_keep : NmOk yX10_keep 0 := ⟨⟨by decide +kernel, by decide +kernel⟩, by decide +kernel⟩
theorem nk_X10_back : NmOk yX10_back 0 := ⟨⟨by decide +kernel, by decide +kernel⟩, by decide +kernel⟩
theorem nk_X10_count : NmOk yX10_count 1 := ⟨⟨by decide +kernel, by decide +kernel⟩, by decide +kernel⟩
theorem nk_J6_numberOfTrailingZeros_0f7a4 : NmOk yJ6_numberOfTrailingZeros_0f7a4 1 := ⟨⟨by decide +kernel, by decide +kernel⟩, by decide +kernel⟩
theorem nk_J6_bitCount_0f7a4 : NmOk yJ6_bitCount_0f7a4 1 := ⟨⟨by decide +kernel, by decide +kernel⟩, by decide +kernel⟩
theorem nk_J13_bitCount_95d88 : NmOk yJ13_bitCount_95d88 1 := ⟨⟨by decide +kernel, by decide +kernel⟩, by decide +kernel⟩
theorem nk_J9_max_7cf53 : NmOk yJ9_max_7cf53 2 := ⟨⟨by decide +kernel, by decide +kernel⟩, by decide +kernel⟩
theorem nk_J9_min_7cf53 : NmOk yJ9_min_7cf53 2 := ⟨⟨by decide +kernel, by decide +kernel⟩, by decide +kernel⟩
end
section
/-! ===== signs, as numbers ===== -/
def fl (n : Nat) : Nat := 1 + n % 6 + 2 * (n / 6 % 4) + 3 * (n / 24)
def ag (B M n d : Nat) : Nat := (n % 6 - d / B) + 6 * min (n / 6 % 4 + d / M) 3 + 24 * (n / 24)
def bt (n : Nat) : Nat := if 24 ≤ n then n % 24 else if n % 6 = 0 then 0 else n - n % 6
def bts (n : Nat) : Nat → Nat
  | 0 => n
  | b + 1 => bt (bts n b)
def tn (B M n d b : Nat) : Nat := bts (ag B M n d) b
theorem fl_bd (n : Nat) (h : n < 72) : 1 ≤ fl n ∧ fl n ≤ 18 := by unfold fl; omega
theorem ag_bd (B M n d : Nat) (h : n < 72) : ag B M n d < 72 := by
  unfold ag
  have h1 := Nat.sub_le (n % 6) (d / B)
  have h2 := Nat.min_le_right (n / 6 % 4 + d / M) 3
  generalize n % 6 - d / B = a at *
  generalize min (n / 6 % 4 + d / M) 3 = b at *
  omega
theorem bt_bd (n : Nat) (h : n < 72) : bt n < 72 := by unfold bt; split <;> (try split) <;> omega
theorem bts_bd (n : Nat) (h : n < 72) : ∀ b, bts n b < 72
  | 0 => h
  | b + 1 => bt_bd _ (bts_bd n h b)
theorem tn_bd (B M n d b : Nat) (h : n < 72) : tn B M n d b < 72 := bts_bd _ (ag_bd B M n d h) b
/-- the first word with a sign, -4 if there is none -/
def rdA (sg : Nat → Nat) (x : Nat) : Nat → Option Nat
  | 0 => none
  | k + 1 => match rdA sg x k with
    | some w => some w
    | none => if sg k = x then some k else none
def oI : Option Nat → Int
  | some w => (w : Int)
  | none => -4
def rd (sg : Nat → Nat) (k x : Nat) : Int := oI (rdA sg x k)
theorem rdA_some {sg : Nat → Nat} {x : Nat} : ∀ {k w : Nat}, rdA sg x k = some w → w < k ∧ sg w = x ∧ ∀ j, j < w → sg j ≠ x
  | 0, w, h => by simp [rdA] at h
  | k + 1, w, h => by
    unfold rdA at h
    cases hq : rdA sg x k with
    | some v =>
      rw [hq] at h
      simp at h; subst h
      have := rdA_some hq
      exact ⟨by omega, this.2⟩
    | none =>
      rw [hq] at h
      simp at h
      obtain ⟨h1, h2⟩ := h
      subst h2
      refine ⟨by omega, h1, fun j hj => ?_⟩
      exact rdA_none' hq j hj
where rdA_none' {sg : Nat → Nat} {x : Nat} : ∀ {k : Nat}, rdA sg x k = none → ∀ j, j < k → sg j ≠ x
  | 0, _, j, hj => by omega
  | k + 1, h, j, hj => by
    unfold rdA at h
    cases hq : rdA sg x k with
    | some v => rw [hq] at h; simp at h
    | none =>
      rw [hq] at h
      simp at h
      by_cases hjk : j = k
      · subst hjk; exact h
      · exact rdA_none' hq j (by omega)
theorem rdA_none {sg : Nat → Nat} {x k : Nat} (h : rdA sg x k = none) : ∀ j, j < k → sg j ≠ x := rdA_some.rdA_none' h
theorem rdA_of {sg : Nat → Nat} {x : Nat} : ∀ {k w : Nat}, w < k → sg w = x → (∀ j, j < w → sg j ≠ x) → rdA sg x k = some w := by
  intro k w h1 h2 h3
  cases hq : rdA sg x k with
  | none => exact absurd h2 (rdA_none hq w h1)
  | some v =>
    obtain ⟨a1, a2, a3⟩ := rdA_some hq
    have h4 : v = w := by
      rcases Nat.lt_trichotomy v w with h | h | h
      · exact absurd a2 (h3 v h)
      · exact h
      · exact absurd h2 (a3 w h)
    rw [h4]
theorem rdA_no {sg : Nat → Nat} {x k : Nat} (h : ∀ j, j < k → sg j ≠ x) : rdA sg x k = none := by
  cases hq : rdA sg x k with
  | none => rfl
  | some v => exact absurd (rdA_some hq).2.1 (h v (rdA_some hq).1)
theorem rdA_cong {sg sh : Nat → Nat} {x : Nat} : ∀ {k : Nat}, (∀ j, j < k → sg j = sh j) → rdA sg x k = rdA sh x k
  | 0, _ => rfl
  | k + 1, h => by unfold rdA; rw [rdA_cong (fun j hj => h j (by omega)), h k (by omega)]
theorem rd_of {sg : Nat → Nat} {x k w : Nat} (h1 : w < k) (h2 : sg w = x) (h3 : ∀ j, j < w → sg j ≠ x) : rd sg k x = (w : Int) := by unfold rd; rw [rdA_of h1 h2 h3]; rfl
theorem rd_no {sg : Nat → Nat} {x k : Nat} (h : ∀ j, j < k → sg j ≠ x) : rd sg k x = -4 := by unfold rd; rw [rdA_no h]; rfl
theorem rd_cong {sg sh : Nat → Nat} {x k : Nat} (h : ∀ j, j < k → sg j = sh j) : rd sg k x = rd sh k x := by unfold rd; rw [rdA_cong h]
theorem rd_bd (sg : Nat → Nat) (k x : Nat) : -4 ≤ rd sg k x ∧ rd sg k x < k + 1 := by
  unfold rd
  cases hq : rdA sg x k with
  | none => show -4 ≤ (-4 : Int) ∧ (-4 : Int) < _; omega
  | some v => have := (rdA_some hq).1; show -4 ≤ (v : Int) ∧ (v : Int) < _; omega
end
section
set_option maxHeartbeats 4000000 in
set_option maxRecDepth 100000 in
theorem c_X6_of (l : Launch) (g : GG) (x : Nat) (y : Nat) (w : Nat)  : ROi g l yX6_of cX6_of 3 (some .int) 1 [] [nV x, nV y, nV w] (fun r => r = iI ((x + 6 * y + 24 * w : Nat) : Int)) := by
  refine ro_startI (by decide +kernel) (Nat.le_of_ble_eq_true rfl) ?_
  intro p e s m args below meth c Q ls C hK hP ret hl
  have C : CT p s m args meth c cX6_of RX6 3 := C
  have hl : lv_has ls 3 [(0, nV x), (1, nV y), (2, nV w)] := hl
  refine lv_iload_n C.1 C.2.1 dX6_of_0 rfl (lv_at hl 0 rfl) ?_
  refine r_bipush 6 C dX6_of_1 (by decide) ?_
  refine lv_iload_n C.1 C.2.1 dX6_of_3 rfl (lv_at hl 1 rfl) ?_
  refine r_mulN C dX6_of_4 ?_
  refine r_addN C dX6_of_5 ?_
  refine r_bipush 24 C dX6_of_6 (by decide) ?_
  refine lv_iload_n C.1 C.2.1 dX6_of_8 rfl (lv_at hl 2 rfl) ?_
  refine r_mulN C dX6_of_9 ?_
  refine r_addN C dX6_of_10 ?_
  exact ret dX6_of_11 (by first | rfl | exact iI_cast (by omega) | exact congrArg lI (by omega) | omega)
set_option maxHeartbeats 4000000 in
set_option maxRecDepth 100000 in
theorem c_X6_seeds (l : Launch) (g : GG) (x : Nat) (hx : x < 2147483648) : ROi g l yX6_seeds cX6_seeds 1 (some .int) 1 [] [nV x] (fun r => r = iI ((x % 6 : Nat) : Int)) := by
  refine ro_startI (by decide +kernel) (Nat.le_of_ble_eq_true rfl) ?_
  intro p e s m args below meth c Q ls C hK hP ret hl
  have C : CT p s m args meth c cX6_seeds RX6 1 := C
  have hl : lv_has ls 1 [(0, nV x)] := hl
  refine lv_iload_n C.1 C.2.1 dX6_seeds_0 rfl (lv_at hl 0 rfl) ?_
  refine r_bipush 6 C dX6_seeds_1 (by decide) ?_
  refine r_remN C dX6_seeds_3 (by omega) (by decide) ?_
  exact ret dX6_seeds_4 (by first | rfl | exact iI_cast (by omega) | exact congrArg lI (by omega) | omega)
set_option maxHeartbeats 4000000 in
set_option maxRecDepth 100000 in
theorem c_X6_cuts (l : Launch) (g : GG) (x : Nat) (hx : x < 2147483648) : ROi g l yX6_cuts cX6_cuts 1 (some .int) 1 [] [nV x] (fun r => r = iI ((x / 6 % 4 : Nat) : Int)) := by
  refine ro_startI (by decide +kernel) (Nat.le_of_ble_eq_true rfl) ?_
  intro p e s m args below meth c Q ls C hK hP ret hl
  have C : CT p s m args meth c cX6_cuts RX6 1 := C
  have hl : lv_has ls 1 [(0, nV x)] := hl
  refine lv_iload_n C.1 C.2.1 dX6_cuts_0 rfl (lv_at hl 0 rfl) ?_
  refine r_bipush 6 C dX6_cuts_1 (by decide) ?_
  refine r_divN C dX6_cuts_3 (by omega) (by decide) ?_
  refine r_iconst 4 C dX6_cuts_4 rfl ?_
  refine r_remN C dX6_cuts_5 (by omega) (by decide) ?_
  exact ret dX6_cuts_6 (by first | rfl | exact iI_cast (by omega) | exact congrArg lI (by omega) | omega)
set_option maxHeartbeats 4000000 in
set_option maxRecDepth 100000 in
theorem c_X6_filling (l : Launch) (g : GG) (x : Nat) (hx : x < 2147483648) : ROi g l yX6_filling cX6_filling 1 (some .int) 1 [] [nV x] (fun r => r = iI ((x / 24 : Nat) : Int)) := by
  refine ro_startI (by decide +kernel) (Nat.le_of_ble_eq_true rfl) ?_
  intro p e s m args below meth c Q ls C hK hP ret hl
  have C : CT p s m args meth c cX6_filling RX6 1 := C
  have hl : lv_has ls 1 [(0, nV x)] := hl
  refine lv_iload_n C.1 C.2.1 dX6_filling_0 rfl (lv_at hl 0 rfl) ?_
  refine r_bipush 24 C dX6_filling_1 (by decide) ?_
  refine r_divN C dX6_filling_3 (by omega) (by decide) ?_
  exact ret dX6_filling_4 (by first | rfl | exact iI_cast (by omega) | exact congrArg lI (by omega) | omega)
set_option maxHeartbeats 4000000 in
set_option maxRecDepth 100000 in
theorem c_X6_flour (l : Launch) (g : GG) (x : Nat) (hx : x < 2147483648) : ROi g l yX6_flour cX6_flour 1 (some .int) 2 [] [nV x] (fun r => r = iI ((fl x : Nat) : Int)) := by
  refine ro_startI (by decide +kernel) (Nat.le_of_ble_eq_true rfl) ?_
  intro p e s m args below meth c Q ls C hK hP ret hl
  have C : CT p s m args meth c cX6_flour RX6 1 := C
  have hl : lv_has ls 1 [(0, nV x)] := hl
  refine r_iconst 1 C dX6_flour_0 rfl ?_
  refine lv_iload_n C.1 C.2.1 dX6_flour_1 rfl (lv_at hl 0 rfl) ?_
  refine ro_callS (As := [nV x]) (rest := [nV 1]) C hK (c_X6_seeds l g x (by first | assumption | omega)) hP kc_X6_seeds kl_X6_7 kn_X6 ks_X6_seeds nk_X6_seeds (rm_lt (by decide) (by decide)) hl rfl (Nat.le_of_ble_eq_true rfl) dX6_flour_2 (fun r_1 hr_2 => ?_)
  subst hr_2
  refine r_addN C dX6_flour_5 ?_
  refine r_iconst 2 C dX6_flour_6 rfl ?_
  refine lv_iload_n C.1 C.2.1 dX6_flour_7 rfl (lv_at hl 0 rfl) ?_
  refine ro_callS (As := [nV x]) (rest := [nV 2, nV (1 + (x % 6))]) C hK (c_X6_cuts l g x (by first | assumption | omega)) hP kc_X6_cuts kl_X6_13 kn_X6 ks_X6_cuts nk_X6_cuts (rm_lt (by decide) (by decide)) hl rfl (Nat.le_of_ble_eq_true rfl) dX6_flour_8 (fun r_3 hr_4 => ?_)
  subst hr_4
  refine r_mulN C dX6_flour_11 ?_
  refine r_addN C dX6_flour_12 ?_
  refine r_iconst 3 C dX6_flour_13 rfl ?_
  refine lv_iload_n C.1 C.2.1 dX6_flour_14 rfl (lv_at hl 0 rfl) ?_
  refine ro_callS (As := [nV x]) (rest := [nV 3, nV ((1 + (x % 6)) + (2 * (x / 6 % 4)))]) C hK (c_X6_filling l g x (by first | assumption | omega)) hP kc_X6_filling kl_X6_16 kn_X6 ks_X6_filling nk_X6_filling (rm_lt (by decide) (by decide)) hl rfl (Nat.le_of_ble_eq_true rfl) dX6_flour_15 (fun r_5 hr_6 => ?_)
  subst hr_6
  refine r_mulN C dX6_flour_18 ?_
  refine r_addN C dX6_flour_19 ?_
  exact ret dX6_flour_20 (by first | rfl | exact iI_cast (by omega) | exact congrArg lI (by omega) | omega)
set_option maxHeartbeats 4000000 in
set_option maxRecDepth 100000 in
theorem c_X6_bitten (l : Launch) (g : GG) (x : Nat) (hx : x < 72) : ROi g l yX6_bitten cX6_bitten 1 (some .int) 2 [] [nV x] (fun r => r = iI ((bt x : Nat) : Int)) := by
  refine ro_startI (by decide +kernel) (Nat.le_of_ble_eq_true rfl) ?_
  intro p e s m args below meth c Q ls C hK hP ret hl
  have C : CT p s m args meth c cX6_bitten RX6 1 := C
  have hl : lv_has ls 1 [(0, nV x)] := hl
  refine lv_iload_n C.1 C.2.1 dX6_bitten_0 rfl (lv_at hl 0 rfl) ?_
  refine ro_callS (As := [nV x]) (rest := []) C hK (c_X6_filling l g x (by first | assumption | omega)) hP kc_X6_filling kl_X6_16 kn_X6 ks_X6_filling nk_X6_filling (rm_lt (by decide) (by decide)) hl rfl (Nat.le_of_ble_eq_true rfl) dX6_bitten_1 (fun r_1 hr_2 => ?_)
  subst hr_2
  refine r_ile 20 C dX6_bitten_4 rfl (rgN (by omega)) (fun h_3 => ?_) (fun h_3 => ?_)
  · skip
    refine lv_iload_n C.1 C.2.1 dX6_bitten_20 rfl (lv_at hl 0 rfl) ?_
    refine ro_callS (As := [nV x]) (rest := []) C hK (c_X6_seeds l g x (by first | assumption | omega)) hP kc_X6_seeds kl_X6_7 kn_X6 ks_X6_seeds nk_X6_seeds (rm_lt (by decide) (by decide)) hl rfl (Nat.le_of_ble_eq_true rfl) dX6_bitten_21 (fun r_4 hr_5 => ?_)
    subst hr_5
    refine r_ile 39 C dX6_bitten_24 rfl (rgN (by omega)) (fun h_6 => ?_) (fun h_6 => ?_)
    · skip
      refine r_iconst 0 C dX6_bitten_39 rfl ?_
      exact ret dX6_bitten_40 (by exact iI_cast (by unfold bt; split <;> (try split) <;> omega))
    refine r_iconst 0 C dX6_bitten_27 rfl ?_
    refine lv_iload_n C.1 C.2.1 dX6_bitten_28 rfl (lv_at hl 0 rfl) ?_
    refine ro_callS (As := [nV x]) (rest := [nV 0]) C hK (c_X6_cuts l g x (by first | assumption | omega)) hP kc_X6_cuts kl_X6_13 kn_X6 ks_X6_cuts nk_X6_cuts (rm_lt (by decide) (by decide)) hl rfl (Nat.le_of_ble_eq_true rfl) dX6_bitten_29 (fun r_7 hr_8 => ?_)
    subst hr_8
    refine r_iconst 0 C dX6_bitten_32 rfl ?_
    refine ro_callS (As := [nV 0, nV (x / 6 % 4), nV 0]) (rest := []) C hK (c_X6_of l g 0 (x / 6 % 4) 0) hP kc_X6_of kl_X6_19 kn_X6 ks_X6_of nk_X6_of (rm_lt (by decide) (by decide)) hl rfl (Nat.le_of_ble_eq_true rfl) dX6_bitten_33 (fun r_9 hr_10 => ?_)
    subst hr_10
    refine r_goto 40 C dX6_bitten_36 rfl ?_
    exact ret dX6_bitten_40 (by exact iI_cast (by unfold bt; split <;> (try split) <;> omega))
  refine lv_iload_n C.1 C.2.1 dX6_bitten_7 rfl (lv_at hl 0 rfl) ?_
  refine ro_callS (As := [nV x]) (rest := []) C hK (c_X6_seeds l g x (by first | assumption | omega)) hP kc_X6_seeds kl_X6_7 kn_X6 ks_X6_seeds nk_X6_seeds (rm_lt (by decide) (by decide)) hl rfl (Nat.le_of_ble_eq_true rfl) dX6_bitten_8 (fun r_11 hr_12 => ?_)
  subst hr_12
  refine lv_iload_n C.1 C.2.1 dX6_bitten_11 rfl (lv_at hl 0 rfl) ?_
  refine ro_callS (As := [nV x]) (rest := [nV (x % 6)]) C hK (c_X6_cuts l g x (by first | assumption | omega)) hP kc_X6_cuts kl_X6_13 kn_X6 ks_X6_cuts nk_X6_cuts (rm_lt (by decide) (by decide)) hl rfl (Nat.le_of_ble_eq_true rfl) dX6_bitten_12 (fun r_13 hr_14 => ?_)
  subst hr_14
  refine r_iconst 0 C dX6_bitten_15 rfl ?_
  refine ro_callS (As := [nV (x % 6), nV (x / 6 % 4), nV 0]) (rest := []) C hK (c_X6_of l g (x % 6) (x / 6 % 4) 0) hP kc_X6_of kl_X6_19 kn_X6 ks_X6_of nk_X6_of (rm_lt (by decide) (by decide)) hl rfl (Nat.le_of_ble_eq_true rfl) dX6_bitten_16 (fun r_15 hr_16 => ?_)
  subst hr_16
  exact ret dX6_bitten_19 (by exact iI_cast (by unfold bt; split <;> (try split) <;> omega))
set_option maxHeartbeats 4000000 in
set_option maxRecDepth 100000 in
theorem c_X9_within (l : Launch) (g : GG) (x : Int) (y : Int) (w : Int) (hx : rg x) (hy : rg y) (hw : rg w) : ROi g l yX9_within cX9_within 3 (some .boolean) 1 [] [zV x, zV y, zV w] (fun r => r = bI (y ≤ x ∧ x ≤ w)) := by
  refine ro_startZ (by decide +kernel) (Nat.le_of_ble_eq_true rfl) ?_
  intro p e s m args below meth c Q ls C hK hP ret hl
  have C : CT p s m args meth c cX9_within RX9 3 := C
  have hl : lv_has ls 3 [(0, zV x), (1, zV y), (2, zV w)] := hl
  refine lv_iload_n C.1 C.2.1 dX9_within_0 rfl (lv_at hl 0 rfl) ?_
  refine lv_iload_n C.1 C.2.1 dX9_within_1 rfl (lv_at hl 1 rfl) ?_
  refine r_clt 14 C dX9_within_2 rfl ⟨⟨by omega, by omega⟩, ⟨by omega, by omega⟩⟩ (fun h_1 => ?_) (fun h_1 => ?_)
  · skip
    refine r_iconst 0 C dX9_within_14 rfl ?_
    exact ret dX9_within_15 (by decide) (bI_z (by omega))
  refine lv_iload_n C.1 C.2.1 dX9_within_5 rfl (lv_at hl 0 rfl) ?_
  refine lv_iload_n C.1 C.2.1 dX9_within_6 rfl (lv_at hl 2 rfl) ?_
  refine r_cgt 14 C dX9_within_7 rfl ⟨⟨by omega, by omega⟩, ⟨by omega, by omega⟩⟩ (fun h_2 => ?_) (fun h_2 => ?_)
  · skip
    refine r_iconst 0 C dX9_within_14 rfl ?_
    exact ret dX9_within_15 (by decide) (bI_z (by omega))
  refine r_iconst 1 C dX9_within_10 rfl ?_
  refine r_goto 15 C dX9_within_11 rfl ?_
  exact ret dX9_within_15 (by decide) (bI_1 (by omega))
end
section
/-! ===== odds ===== -/
def ch (L : Nat) : Nat → Nat
  | 0 => 1
  | m + 1 => ch L m * (L - m) / (m + 1)
theorem ch_bd : ∀ L, L < 7 → ∀ i, i < 7 → ch L i ≤ 20 := by decide
theorem ch_mul {L i : Nat} (hL : L < 7) (hi : i < 7) : ch L i * (L - i) ≤ 120 := by
  have h1 := ch_bd L hL i hi
  have h2 : L - i ≤ 6 := by omega
  calc ch L i * (L - i) ≤ 20 * 6 := Nat.mul_le_mul h1 h2
    _ = 120 := rfl
/-- of the first b numbers of bites those behind which the sign is the same, by their ways -/
def wy (B M x a h L : Nat) : Nat → Nat
  | 0 => 0
  | b + 1 => wy B M x a h L b + if tn B M x a b = x then ch L b * h ^ b * (10 - h) ^ (L - b) else 0
def wyf (h L : Nat) : Nat → Nat
  | 0 => 0
  | b + 1 => wyf h L b + ch L b * h ^ b * (10 - h) ^ (L - b)
theorem wy_le (B M x a h L : Nat) : ∀ b, wy B M x a h L b ≤ wyf h L b
  | 0 => Nat.le_refl _
  | b + 1 => by
    have := wy_le B M x a h L b
    show wy B M x a h L b + _ ≤ wyf h L b + _
    split <;> omega
theorem wyf_all : ∀ h, h < 10 → ∀ L, L < 7 → wyf h L (L + 1) = 10 ^ L := by decide
theorem wy_bd (B M x a h L : Nat) (hh : h < 10) (hL : L ≤ 6) : wy B M x a h L (L + 1) ≤ 10 ^ L := by
  rw [← wyf_all h hh L (by omega)]; exact wy_le B M x a h L (L + 1)
theorem ten_bd {L : Nat} (h : L ≤ 6) : 1 ≤ 10 ^ L ∧ 10 ^ L ≤ 1000000 := by
  have : ∀ L, L < 7 → 1 ≤ 10 ^ L ∧ 10 ^ L ≤ 1000000 := by decide
  exact this L (by omega)
/-! ===== Euclid's steps ===== -/
theorem eu_step {x y i : Nat} (h : y < x) (hy : 0 < y) (hp : x * y * 2 ^ i < 2 ^ 84) : y * (x % y) * 2 ^ (i + 1) < 2 ^ 84 := by
  have h1 : x % y < y := Nat.mod_lt x hy
  have h3 : 2 * (x % y) ≤ x := by
    have h4 := Nat.mod_add_div x y
    have h5 : 1 ≤ x / y := (Nat.le_div_iff_mul_le hy).mpr (by omega)
    have h6 : y ≤ y * (x / y) := Nat.le_mul_of_pos_right y h5
    omega
  have e1 : y * (x % y) * 2 ^ (i + 1) = (2 * (x % y)) * y * 2 ^ i := by
    rw [Nat.pow_succ]
    simp only [Nat.mul_comm, Nat.mul_left_comm, Nat.mul_assoc]
  rw [e1]
  exact Nat.lt_of_le_of_lt (Nat.mul_le_mul (Nat.mul_le_mul h3 (Nat.le_refl y)) (Nat.le_refl _)) hp
theorem eu_first {a b : Nat} (hb : 0 < b) (h : b < 2 ^ 41) : b * (a % b) * 2 ^ 1 < 2 ^ 84 := by
  have h1 : a % b < b := Nat.mod_lt a hb
  have h2 : b * (a % b) ≤ 2 ^ 41 * 2 ^ 41 := Nat.mul_le_mul (by omega) (by omega)
  have e1 : (2 : Nat) ^ 41 * 2 ^ 41 = 2 ^ 82 := by decide
  have e2 : (2 : Nat) ^ 82 * 4 = 2 ^ 84 := by decide
  have e3 : (0 : Nat) < 2 ^ 82 := by decide
  omega
theorem eu_end {x y i : Nat} (h : y < x) (hi : 100 ≤ i) (hp : x * y * 2 ^ i < 2 ^ 84) : y = 0 := by
  rcases Nat.eq_zero_or_pos y with h0 | h0
  · exact h0
  · exfalso
    have h1 : 1 ≤ x * y := Nat.mul_pos (by omega) h0
    have h2 : (2 : Nat) ^ 84 ≤ 2 ^ i := Nat.pow_le_pow_right (by decide) (by omega)
    have h3 : 2 ^ i ≤ x * y * 2 ^ i := Nat.le_mul_of_pos_left _ h1
    omega
/-! ===== sets of words as bits of an int, sums over them ===== -/
def wsum (f : Nat → Nat) (x : Int32) : Nat → Int32
  | 0 => iI ((0 : Nat) : Int)
  | i + 1 => wsum f x i + (x >>> (iI (i : Int) &&& 31) &&& iI ((1 : Nat) : Int)) * iI ((f i : Nat) : Int)
theorem wsum_cong {f h : Nat → Nat} {x : Int32} : ∀ {n : Nat}, (∀ j, j < n → f j = h j) → wsum f x n = wsum h x n
  | 0, _ => rfl
  | n + 1, e => by unfold wsum; rw [wsum_cong (fun j hj => e j (by omega)), e n (by omega)]
def bset (P : Nat → Bool) : Nat → Int32
  | 0 => iI ((0 : Nat) : Int)
  | i + 1 => if P i = true then bset P i ||| iI ((1 : Nat) : Int) <<< (iI (i : Int) &&& 31) else bset P i
theorem bset_cong {P R : Nat → Bool} : ∀ {n : Nat}, (∀ j, j < n → P j = R j) → bset P n = bset R n
  | 0, _ => rfl
  | n + 1, e => by unfold bset; rw [bset_cong (fun j hj => e j (by omega)), e n (by omega)]
/-! ===== bytes ===== -/
def by8 (v : Int64) (k : Nat) : Nat := v.toBitVec.toNat / 2 ^ (8 * k) % 256
theorem by8_bd (v : Int64) (k : Nat) : by8 v k < 256 := Nat.mod_lt _ (by decide)
def wrt (u : Nat → Nat) (L : Nat) (v : Int64) (nn i : Nat) : Nat → Nat := fun j => if L ≤ j ∧ j < L + i then by8 v (nn - 1 - (j - L)) else u j
theorem wrt_0 {u : Nat → Nat} {L nn : Nat} {v : Int64} : wrt u L v nn 0 = u := funext fun j => if_neg (by omega)
theorem wrt_s {u : Nat → Nat} {L nn i : Nat} {v : Int64} : upN (wrt u L v nn i) (L + i) (by8 v (nn - 1 - i)) = wrt u L v nn (i + 1) := by
  funext j
  unfold upN wrt
  by_cases h : j = L + i
  · subst h
    rw [if_pos rfl, if_pos (by omega), show L + i - L = i by omega]
  · rw [if_neg h]
    by_cases h2 : L ≤ j ∧ j < L + i
    · rw [if_pos h2, if_pos (by omega)]
    · rw [if_neg h2, if_neg (by omega)]
/-- the byte's number at a place of the text, -1 behind its end -/
def chr (u : Nat → Nat) (L p : Nat) : Int := if p < L then (u p : Int) else -1
theorem chr_bd (u : Nat → Nat) (L p : Nat) (h : ∀ j, u j < 256) : -1 ≤ chr u L p ∧ chr u L p < 256 := by
  have := h p
  unfold chr; split <;> omega
def low (x y w : Nat) : Nat := (if w = 0 then x else y) / Nat.gcd x y
def flk (x y : Nat) : Nat := if y = 1 then 2 * fl x else if y = 2 then fl x + 2 else fl x
theorem flk_bd (x y : Nat) (h : x < 72) : flk x y ≤ 36 := by
  have := fl_bd x h
  unfold flk; split <;> (try split) <;> omega
def drw (x y : Nat) : Nat := (7919 * x + 6151 * y + 1) * (7919 * x + 6151 * y + 1) % 65521
theorem drw_bd (x y : Nat) : drw x y < 65521 := Nat.mod_lt _ (by decide)
theorem drw_sq {q x y : Nat} (hq : q = 7919 * x + 6151 * y + 1) (hx : x < 10000) (hy : y < 31) : q * q ≤ 10000000000000000 := by
  have h : q ≤ 100000000 := by omega
  exact Nat.le_trans (Nat.mul_le_mul h h) (by decide)
/-- the byte that '(byte) (v >>> 8 k)' is, and that '(byte) (v >> 8 k)' is -/
theorem sx_8 (x : BitVec 32) : x.signExtend 8 = x.setWidth 8 := by
  first | exact BitVec.signExtend_eq_setWidth_of_le _ (by decide) | exact BitVec.signExtend_eq_setWidth_of_lt _ (by decide) | (apply BitVec.eq_of_getLsbD_eq; intro i hi; rw [BitVec.getLsbD_signExtend, BitVec.getLsbD_setWidth]; simp [hi, show i < 32 by omega])
theorem sx_32 (x : BitVec 64) : x.signExtend 32 = x.setWidth 32 := by
  first | exact BitVec.signExtend_eq_setWidth_of_le _ (by decide) | exact BitVec.signExtend_eq_setWidth_of_lt _ (by decide) | (apply BitVec.eq_of_getLsbD_eq; intro i hi; rw [BitVec.getLsbD_signExtend, BitVec.getLsbD_setWidth]; simp [hi, show i < 64 by omega])
theorem by8_low (x : Int32) : x.toInt8.toInt32 = sb_b (x.toBitVec.toNat % 256) := by
  unfold sb_b
  congr 1
  apply Int8.toBitVec_inj.mp
  apply BitVec.eq_of_toNat_eq
  show (x.toBitVec.signExtend 8).toNat = ((nI (x.toBitVec.toNat % 256)).toBitVec.signExtend 8).toNat
  rw [sx_8, sx_8, BitVec.toNat_setWidth, BitVec.toNat_setWidth, pk_tn (by omega)]
  omega
theorem by8_nar (x : Int32) : vp_nar .byte x.toInt8.toInt32 = x.toInt8.toInt32 := pk_vb x
theorem by8_ushr {v : Int64} {z : Int} {k : Nat} (hk : k ≤ 7) (hz : ((8 : Nat) : Int) * z = ((8 * k : Nat) : Int)) : vp_nar .byte ((v.toUInt64 >>> ((iI (((8 : Nat) : Int) * z)).toInt64.toUInt64 &&& Int64.toUInt64 63)).toInt64.toInt32.toInt8.toInt32) = sb_b (by8 v k) := by
  rw [by8_nar, by8_low, hz, iI_nI]
  congr 1
  unfold by8
  have hs : ((nI (8 * k)).toInt64.toUInt64 &&& Int64.toUInt64 63).toBitVec.toNat % 64 = 8 * k := by
    have : ∀ k, k < 8 → ((nI (8 * k)).toInt64.toUInt64 &&& Int64.toUInt64 63).toBitVec.toNat % 64 = 8 * k := by decide
    exact this k (by omega)
  show ((v.toUInt64.toBitVec >>> (((nI (8 * k)).toInt64.toUInt64 &&& Int64.toUInt64 63).toBitVec % 64)).signExtend 32).toNat % 256 = _
  rw [sx_32, BitVec.toNat_setWidth]
  show (v.toUInt64.toBitVec >>> (((nI (8 * k)).toInt64.toUInt64 &&& Int64.toUInt64 63).toBitVec % 64).toNat).toNat % 2 ^ 32 % 256 = _
  rw [BitVec.toNat_ushiftRight]
  have e1 : (((nI (8 * k)).toInt64.toUInt64 &&& Int64.toUInt64 63).toBitVec % 64).toNat = 8 * k := by rw [BitVec.toNat_umod]; exact hs
  rw [e1, Nat.shiftRight_eq_div_pow]
  show v.toBitVec.toNat / 2 ^ (8 * k) % 2 ^ 32 % 256 = _
  omega
end
section
set_option maxHeartbeats 4000000 in
set_option maxRecDepth 100000 in
theorem c_X9_isSign (l : Launch) (g : GG) (x : Int) (hx : rg x) : ROi g l yX9_isSign cX9_isSign 1 (some .boolean) 2 [] [zV x] (fun r => r = bI (0 ≤ x ∧ x ≤ 71)) := by
  refine ro_startZ (by decide +kernel) (Nat.le_of_ble_eq_true rfl) ?_
  intro p e s m args below meth c Q ls C hK hP ret hl
  have C : CT p s m args meth c cX9_isSign RX9 1 := C
  have hl : lv_has ls 1 [(0, zV x)] := hl
  refine lv_iload_n C.1 C.2.1 dX9_isSign_0 rfl (lv_at hl 0 rfl) ?_
  refine r_iconst 0 C dX9_isSign_1 rfl ?_
  refine r_bipush 71 C dX9_isSign_2 (by decide) ?_
  refine ro_callS (As := [zV x, nV 0, nV 71]) (rest := []) C hK (c_X9_within l g x ((0 : Nat) : Int) ((71 : Nat) : Int) (hx) (by decide) (by decide)) hP kc_X9_within kl_X9_72 kn_X9 ks_X9_within nk_X9_within (rm_lt (by decide) (by decide)) hl rfl (Nat.le_of_ble_eq_true rfl) dX9_isSign_4 (fun r_1 hr_2 => ?_)
  subst hr_2
  exact ret dX9_isSign_7 bI_nar (rfl)
set_option maxHeartbeats 4000000 in
set_option maxRecDepth 100000 in
theorem c_X9_isAge (l : Launch) (g : GG) (x : Int) (hx : rg x) : ROi g l yX9_isAge cX9_isAge 1 (some .boolean) 2 [] [zV x] (fun r => r = bI (0 ≤ x ∧ x ≤ 20)) := by
  refine ro_startZ (by decide +kernel) (Nat.le_of_ble_eq_true rfl) ?_
  intro p e s m args below meth c Q ls C hK hP ret hl
  have C : CT p s m args meth c cX9_isAge RX9 1 := C
  have hl : lv_has ls 1 [(0, zV x)] := hl
  refine lv_iload_n C.1 C.2.1 dX9_isAge_0 rfl (lv_at hl 0 rfl) ?_
  refine r_iconst 0 C dX9_isAge_1 rfl ?_
  refine r_bipush 20 C dX9_isAge_2 (by decide) ?_
  refine ro_callS (As := [zV x, nV 0, nV 20]) (rest := []) C hK (c_X9_within l g x ((0 : Nat) : Int) ((20 : Nat) : Int) (hx) (by decide) (by decide)) hP kc_X9_within kl_X9_72 kn_X9 ks_X9_within nk_X9_within (rm_lt (by decide) (by decide)) hl rfl (Nat.le_of_ble_eq_true rfl) dX9_isAge_4 (fun r_1 hr_2 => ?_)
  subst hr_2
  exact ret dX9_isAge_7 bI_nar (rfl)
set_option maxHeartbeats 4000000 in
set_option maxRecDepth 100000 in
theorem c_X9_isChoice (l : Launch) (g : GG) (x : Int) (hx : rg x) : ROi g l yX9_isChoice cX9_isChoice 1 (some .boolean) 2 [] [zV x] (fun r => r = bI (0 ≤ x ∧ x ≤ 1)) := by
  refine ro_startZ (by decide +kernel) (Nat.le_of_ble_eq_true rfl) ?_
  intro p e s m args below meth c Q ls C hK hP ret hl
  have C : CT p s m args meth c cX9_isChoice RX9 1 := C
  have hl : lv_has ls 1 [(0, zV x)] := hl
  refine lv_iload_n C.1 C.2.1 dX9_isChoice_0 rfl (lv_at hl 0 rfl) ?_
  refine r_iconst 0 C dX9_isChoice_1 rfl ?_
  refine r_iconst 1 C dX9_isChoice_2 rfl ?_
  refine ro_callS (As := [zV x, nV 0, nV 1]) (rest := []) C hK (c_X9_within l g x ((0 : Nat) : Int) ((1 : Nat) : Int) (hx) (by decide) (by decide)) hP kc_X9_within kl_X9_72 kn_X9 ks_X9_within nk_X9_within (rm_lt (by decide) (by decide)) hl rfl (Nat.le_of_ble_eq_true rfl) dX9_isChoice_3 (fun r_1 hr_2 => ?_)
  subst hr_2
  exact ret dX9_isChoice_6 bI_nar (rfl)
set_option maxHeartbeats 4000000 in
set_option maxRecDepth 100000 in
theorem c_X9_isLoss (l : Launch) (g : GG) (x : Int) (y : Int) (hx : rg x) (hy : rg y) : ROi g l yX9_isLoss cX9_isLoss 2 (some .boolean) 3 [] [zV x, zV y] (fun r => r = bI ((0 ≤ x ∧ x ≤ 20) ∧ (0 ≤ y ∧ y ≤ 3))) := by
  refine ro_startZ (by decide +kernel) (Nat.le_of_ble_eq_true rfl) ?_
  intro p e s m args below meth c Q ls C hK hP ret hl
  have C : CT p s m args meth c cX9_isLoss RX9 2 := C
  have hl : lv_has ls 2 [(0, zV x), (1, zV y)] := hl
  refine lv_iload_n C.1 C.2.1 dX9_isLoss_0 rfl (lv_at hl 0 rfl) ?_
  refine ro_callS (As := [zV x]) (rest := []) C hK (c_X9_isAge l g x (by first | assumption | exact ⟨by omega, by omega⟩)) hP kc_X9_isAge kl_X9_207 kn_X9 ks_X9_isAge nk_X9_isAge (rm_lt (by decide) (by decide)) hl rfl (Nat.le_of_ble_eq_true rfl) dX9_isLoss_1 (fun r_1 hr_2 => ?_)
  subst hr_2
  refine r_beq 20 C dX9_isLoss_4 rfl (fun h_3 => ?_) (fun h_3 => ?_)
  · skip
    refine r_iconst 0 C dX9_isLoss_20 rfl ?_
    exact ret dX9_isLoss_21 (by decide) (bI_z (by omega))
  refine lv_iload_n C.1 C.2.1 dX9_isLoss_7 rfl (lv_at hl 1 rfl) ?_
  refine r_iconst 0 C dX9_isLoss_8 rfl ?_
  refine r_iconst 3 C dX9_isLoss_9 rfl ?_
  refine ro_callS (As := [zV y, nV 0, nV 3]) (rest := []) C hK (c_X9_within l g y ((0 : Nat) : Int) ((3 : Nat) : Int) (hy) (by decide) (by decide)) hP kc_X9_within kl_X9_72 kn_X9 ks_X9_within nk_X9_within (rm_lt (by decide) (by decide)) hl rfl (Nat.le_of_ble_eq_true rfl) dX9_isLoss_10 (fun r_4 hr_5 => ?_)
  subst hr_5
  refine r_beq 20 C dX9_isLoss_13 rfl (fun h_6 => ?_) (fun h_6 => ?_)
  · skip
    refine r_iconst 0 C dX9_isLoss_20 rfl ?_
    exact ret dX9_isLoss_21 (by decide) (bI_z (by omega))
  refine r_iconst 1 C dX9_isLoss_16 rfl ?_
  refine r_goto 21 C dX9_isLoss_17 rfl ?_
  exact ret dX9_isLoss_21 (by decide) (bI_1 (by omega))
set_option maxHeartbeats 4000000 in
set_option maxRecDepth 100000 in
theorem c_X9_flourOf (l : Launch) (g : GG) (x : Nat) (y : Nat) (hx : x < 72) (hy : y < 4) : ROi g l yX9_flourOf cX9_flourOf 3 (some .int) 3 [] [nV x, nV y] (fun r => r = iI ((flk x y : Nat) : Int)) := by
  refine ro_startI (by decide +kernel) (Nat.le_of_ble_eq_true rfl) ?_
  intro p e s m args below meth c Q ls C hK hP ret hl
  have C : CT p s m args meth c cX9_flourOf RX9 3 := C
  have hl : lv_has ls 3 [(0, nV x), (1, nV y)] := hl
  refine lv_iload_n C.1 C.2.1 dX9_flourOf_0 rfl (lv_at hl 0 rfl) ?_
  refine ro_callS (As := [nV x]) (rest := []) C hK (c_X6_flour l g x (by first | assumption | omega)) hP kc_X6_flour kl_X9_110 kn_X6 ks_X6_flour nk_X6_flour (rm_lt (by decide) (by decide)) hl rfl (Nat.le_of_ble_eq_true rfl) dX9_flourOf_1 (fun r_1 hr_2 => ?_)
  subst hr_2
  refine lv_istore_n (lv' := [(2, nV (fl x)), (0, nV x), (1, nV y)]) C.1 C.2.1 dX9_flourOf_4 rfl hl (by decide) rfl (fun ls hl => ?_)
  refine lv_iload_n C.1 C.2.1 dX9_flourOf_5 rfl (lv_at hl 2 rfl) ?_
  refine r_iconst 1 C dX9_flourOf_6 rfl ?_
  refine r_cne 14 C dX9_flourOf_7 rfl ⟨rgN (by omega), rgN (by decide)⟩ (fun h_3 => ?_) (fun h_3 => ?_)
  · skip
    refine lv_iload_n C.1 C.2.1 dX9_flourOf_14 rfl (lv_at hl 2 rfl) ?_
    refine r_iconst 2 C dX9_flourOf_15 rfl ?_
    refine r_cne 25 C dX9_flourOf_16 rfl ⟨rgN (by omega), rgN (by decide)⟩ (fun h_4 => ?_) (fun h_4 => ?_)
    · skip
      refine lv_iload_n C.1 C.2.1 dX9_flourOf_25 rfl (lv_at hl 0 rfl) ?_
      exact ret dX9_flourOf_26 (by exact iI_cast (by unfold flk; split <;> (try split) <;> omega))
    refine lv_iload_n C.1 C.2.1 dX9_flourOf_19 rfl (lv_at hl 0 rfl) ?_
    refine r_iconst 2 C dX9_flourOf_20 rfl ?_
    refine r_addN C dX9_flourOf_21 ?_
    refine r_goto 26 C dX9_flourOf_22 rfl ?_
    exact ret dX9_flourOf_26 (by exact iI_cast (by unfold flk; split <;> (try split) <;> omega))
  refine r_iconst 2 C dX9_flourOf_10 rfl ?_
  refine lv_iload_n C.1 C.2.1 dX9_flourOf_11 rfl (lv_at hl 0 rfl) ?_
  refine r_mulN C dX9_flourOf_12 ?_
  exact ret dX9_flourOf_13 (by exact iI_cast (by unfold flk; split <;> (try split) <;> omega))
set_option maxHeartbeats 4000000 in
set_option maxRecDepth 100000 in
theorem c_X9_drawOf (l : Launch) (g : GG) (x : Nat) (y : Nat) (hx : x < 10000) (hy : y < 31) : ROi g l yX9_drawOf cX9_drawOf 4 (some .int) 1 [] [nV x, nV y] (fun r => r = iI ((drw x y : Nat) : Int)) := by
  refine ro_startI (by decide +kernel) (Nat.le_of_ble_eq_true rfl) ?_
  intro p e s m args below meth c Q ls C hK hP ret hl
  have C : CT p s m args meth c cX9_drawOf RX9 4 := C
  have hl : lv_has ls 4 [(0, nV x), (1, nV y)] := hl
  refine r_ldc2N 7919 C kv_X9_266 dX9_drawOf_0 rfl ?_
  refine lv_iload_n C.1 C.2.1 dX9_drawOf_3 rfl (lv_at hl 0 rfl) ?_
  refine r_i2l C dX9_drawOf_4 (rgN (by omega)) ?_
  refine r_lmulN C dX9_drawOf_5 ?_
  refine r_ldc2N 6151 C kv_X9_268 dX9_drawOf_6 rfl ?_
  refine lv_iload_n C.1 C.2.1 dX9_drawOf_9 rfl (lv_at hl 1 rfl) ?_
  refine r_i2l C dX9_drawOf_10 (rgN (by omega)) ?_
  refine r_lmulN C dX9_drawOf_11 ?_
  refine r_laddN C dX9_drawOf_12 ?_
  refine r_lconst 1 C dX9_drawOf_13 rfl ?_
  refine r_laddN C dX9_drawOf_14 ?_
  refine r_nameM (fun q1 hq1 => ?_)
  refine lv_lstore_n (lv' := [(2, mV q1), (0, nV x), (1, nV y)]) C.1 C.2.1 dX9_drawOf_15 rfl hl (by decide) rfl (fun ls hl => ?_)
  refine lv_lload_n C.1 C.2.1 dX9_drawOf_16 rfl (lv_at hl 0 rfl) ?_
  refine lv_lload_n C.1 C.2.1 dX9_drawOf_17 rfl (lv_at hl 0 rfl) ?_
  refine r_lmulN C dX9_drawOf_18 ?_
  refine r_ldc2N 65521 C kv_X9_270 dX9_drawOf_19 rfl ?_
  refine r_lremN C dX9_drawOf_22 (by have := drw_sq hq1 hx hy; omega) (by decide) ?_
  refine r_l2i C dX9_drawOf_23 ?_
  exact ret dX9_drawOf_24 (by subst hq1; rfl)
set_option maxHeartbeats 4000000 in
set_option maxRecDepth 100000 in
theorem c_X9_at (l : Launch) (g : GG) (a : Nat) (nn : Nat) (F : Nat → Nat) (i : Nat) (hi : i < nn) (hn : nn < 2147483648) : ROi g l yX9_at cX9_at 2 (some .int) 1 [(a, cN g nn F)] [.ref a, nV i] (fun r => r = iI ((F i : Nat) : Int)) := by
  refine ro_startI (by decide +kernel) (Nat.le_of_ble_eq_true rfl) ?_
  intro p e s m args below meth c Q ls C hK hP ret hl
  have C : CT p s m args meth c cX9_at RX9 2 := C
  have hl : lv_has ls 2 [(0, .ref a), (1, nV i)] := hl
  refine lv_iload_n C.1 C.2.1 dX9_at_0 rfl (lv_at hl 1 rfl) ?_
  refine r_ilt 16 C dX9_at_1 rfl (rgN (by omega)) (fun h_1 => ?_) (fun h_1 => ?_)
  · exact absurd h_1 (by omega)
  refine lv_iload_n C.1 C.2.1 dX9_at_4 rfl (lv_at hl 1 rfl) ?_
  refine lv_aload_n C.1 C.2.1 dX9_at_5 rfl (lv_at hl 0 rfl) ?_
  refine r_alen nn (t0 := 1) C hK hP 0 rfl rfl rfl dX9_at_6 ?_
  refine r_cge 16 C dX9_at_7 rfl ⟨rgN (by omega), rgN (by omega)⟩ (fun h_2 => ?_) (fun h_2 => ?_)
  · exact absurd h_2 (by omega)
  refine lv_aload_n C.1 C.2.1 dX9_at_10 rfl (lv_at hl 0 rfl) ?_
  refine lv_iload_n C.1 C.2.1 dX9_at_11 rfl (lv_at hl 1 rfl) ?_
  refine r_aldN C hK hP 0 rfl ⟨hi, by omega⟩ dX9_at_12 ?_
  refine r_goto 17 C dX9_at_13 rfl ?_
  exact ret dX9_at_17 (by first | rfl | exact iI_cast (by omega) | exact congrArg lI (by omega) | omega)
set_option maxHeartbeats 4000000 in
set_option maxRecDepth 100000 in
theorem c_X2_power (l : Launch) (g : GG) (x : Nat) (y : Nat) (hy : y < 2147483648) : ROl g l yX2_power cX2_power 6 (some .long) 1 [] [mV x, nV y] (fun r => r = lI ((x ^ y : Nat) : Int)) := by
  refine ro_startL (by decide +kernel) (Nat.le_of_ble_eq_true rfl) ?_
  intro p e s m args below meth c Q ls C hK hP ret hl
  have C : CT p s m args meth c cX2_power RX2 6 := C
  have hl : lv_has ls 6 [(0, mV x), (2, nV y)] := hl
  refine r_lconst 1 C dX2_power_0 rfl ?_
  refine lv_lstore_n (lv' := [(3, mV 1), (0, mV x), (2, nV y)]) C.1 C.2.1 dX2_power_1 rfl hl (by decide) rfl (fun ls hl => ?_)
  refine r_iconst 0 C dX2_power_2 rfl ?_
  refine lv_istore (lv' := [(5, nV 0), (3, mV 1), (0, mV x), (2, nV y)]) C.1 C.2.1 dX2_power_3 hl (by decide) rfl (fun ls hl => ?_)
  have L5 : ∀ (n : Nat) (i : Nat) (t : Nat) (ls : Array Slot) (hi : i ≤ y) (ht : t = x ^ i) (hm : y - i < n) (hl : lv_has ls 6 [(5, nV i), (3, mV t), (0, mV x), (2, nV y)]), W p l e (rD 1) s m args below meth c s.heap [] 0 0 Q (F0 m 5 ls []) := by
    intro n
    induction n with
    | zero => intro i t ls hi ht hm hl; exact absurd hm (Nat.not_lt_zero _)
    | succ n ih =>
      intro i t ls hi ht hm hl
      refine lv_iload C.1 C.2.1 dX2_power_5 (lv_at hl 0 rfl) ?_
      refine lv_iload_n C.1 C.2.1 dX2_power_7 rfl (lv_at hl 3 rfl) ?_
      refine r_cge 21 C dX2_power_8 rfl ⟨rgN (by omega), rgN (by omega)⟩ (fun h_1 => ?_) (fun h_1 => ?_)
      · skip
        refine lv_lload_n C.1 C.2.1 dX2_power_21 rfl (lv_at hl 1 rfl) ?_
        exact ret dX2_power_22 (congrArg (fun q : Nat => lI (q : Int)) (by rw [ht, show i = y by omega]))
      refine lv_lload_n C.1 C.2.1 dX2_power_11 rfl (lv_at hl 1 rfl) ?_
      refine lv_lload_n C.1 C.2.1 dX2_power_12 rfl (lv_at hl 2 rfl) ?_
      refine r_lmulN C dX2_power_13 ?_
      refine lv_lstore_n (lv' := [(3, mV (t * x)), (5, nV i), (0, mV x), (2, nV y)]) C.1 C.2.1 dX2_power_14 rfl hl (by decide) rfl (fun ls hl => ?_)
      refine r_incN (k := 1) (n := 1) [(5, nV (i + 1)), (3, mV (t * x)), (0, mV x), (2, nV y)] C dX2_power_15 hl rfl rfl (by decide) rfl (fun ls hl => ?_)
      refine r_goto 5 C dX2_power_18 rfl ?_
      exact ih (i + 1) (t * x) _ (by first | assumption | omega) (by rw [ht]; rfl) (by omega) (lv_sub hl [0, 1, 2, 3] rfl)
  exact L5 (y - 0 + 1) 0 1 _ (by first | assumption | omega) (rfl) (Nat.lt_succ_self _) (lv_sub hl [0, 1, 2, 3] rfl)
set_option maxHeartbeats 4000000 in
set_option maxRecDepth 100000 in
theorem c_X2_choose (l : Launch) (g : GG) (x : Nat) (y : Nat) (hx : x < 7) (hy : y ≤ x) : ROl g l yX2_choose cX2_choose 5 (some .long) 1 [] [nV x, nV y] (fun r => r = lI ((ch x y : Nat) : Int)) := by
  refine ro_startL (by decide +kernel) (Nat.le_of_ble_eq_true rfl) ?_
  intro p e s m args below meth c Q ls C hK hP ret hl
  have C : CT p s m args meth c cX2_choose RX2 5 := C
  have hl : lv_has ls 5 [(0, nV x), (1, nV y)] := hl
  refine r_lconst 1 C dX2_choose_0 rfl ?_
  refine lv_lstore_n (lv' := [(2, mV 1), (0, nV x), (1, nV y)]) C.1 C.2.1 dX2_choose_1 rfl hl (by decide) rfl (fun ls hl => ?_)
  refine r_iconst 0 C dX2_choose_2 rfl ?_
  refine lv_istore (lv' := [(4, nV 0), (2, mV 1), (0, nV x), (1, nV y)]) C.1 C.2.1 dX2_choose_3 hl (by decide) rfl (fun ls hl => ?_)
  have L5 : ∀ (n : Nat) (i : Nat) (t : Nat) (ls : Array Slot) (hi : i ≤ y) (ht : t = ch x i) (hm : y - i < n) (hl : lv_has ls 5 [(4, nV i), (2, mV t), (0, nV x), (1, nV y)]), W p l e (rD 1) s m args below meth c s.heap [] 0 0 Q (F0 m 5 ls []) := by
    intro n
    induction n with
    | zero => intro i t ls hi ht hm hl; exact absurd hm (Nat.not_lt_zero _)
    | succ n ih =>
      intro i t ls hi ht hm hl
      refine lv_iload C.1 C.2.1 dX2_choose_5 (lv_at hl 0 rfl) ?_
      refine lv_iload_n C.1 C.2.1 dX2_choose_7 rfl (lv_at hl 3 rfl) ?_
      refine r_cge 31 C dX2_choose_8 rfl ⟨rgN (by omega), rgN (by omega)⟩ (fun h_1 => ?_) (fun h_1 => ?_)
      · skip
        refine lv_lload_n C.1 C.2.1 dX2_choose_31 rfl (lv_at hl 1 rfl) ?_
        exact ret dX2_choose_32 (congrArg (fun q : Nat => lI (q : Int)) (by rw [ht, show i = y by omega]))
      refine lv_lload_n C.1 C.2.1 dX2_choose_11 rfl (lv_at hl 1 rfl) ?_
      refine lv_iload_n C.1 C.2.1 dX2_choose_12 rfl (lv_at hl 2 rfl) ?_
      refine lv_iload C.1 C.2.1 dX2_choose_13 (lv_at hl 0 rfl) ?_
      refine r_subN C dX2_choose_15 (by omega) ?_
      refine r_i2l C dX2_choose_16 (rgN (by omega)) ?_
      refine r_lmulN C dX2_choose_17 ?_
      refine lv_iload C.1 C.2.1 dX2_choose_18 (lv_at hl 0 rfl) ?_
      refine r_iconst 1 C dX2_choose_20 rfl ?_
      refine r_addN C dX2_choose_21 ?_
      refine r_i2l C dX2_choose_22 (rgN (by omega)) ?_
      refine r_ldivN C dX2_choose_23 (by rw [ht]; exact Nat.lt_of_le_of_lt (ch_mul hx (by omega)) (by decide)) (by omega) ?_
      refine lv_lstore_n (lv' := [(2, mV ((t * (x - i)) / (i + 1))), (4, nV i), (0, nV x), (1, nV y)]) C.1 C.2.1 dX2_choose_24 rfl hl (by decide) rfl (fun ls hl => ?_)
      refine r_incN (k := 1) (n := 1) [(4, nV (i + 1)), (2, mV ((t * (x - i)) / (i + 1))), (0, nV x), (1, nV y)] C dX2_choose_25 hl rfl rfl (by decide) rfl (fun ls hl => ?_)
      refine r_goto 5 C dX2_choose_28 rfl ?_
      exact ih (i + 1) ((t * (x - i)) / (i + 1)) _ (by first | assumption | omega) (by rw [ht]; rfl) (by omega) (lv_sub hl [0, 1, 2, 3] rfl)
  exact L5 (y - 0 + 1) 0 1 _ (by first | assumption | omega) (rfl) (Nat.lt_succ_self _) (lv_sub hl [0, 1, 2, 3] rfl)
set_option maxHeartbeats 4000000 in
set_option maxRecDepth 100000 in
theorem c_X2_commonDivisor (l : Launch) (g : GG) (x : Nat) (y : Nat) (hx : x < 2199023255552) (hy : 0 < y ∧ y < 2199023255552) : ROl g l yX2_commonDivisor cX2_commonDivisor 11 (some .long) 1 [] [mV x, mV y] (fun r => r = lI ((Nat.gcd x y : Nat) : Int)) := by
  refine ro_startL (by decide +kernel) (Nat.le_of_ble_eq_true rfl) ?_
  intro p e s m args below meth c Q ls C hK hP ret hl
  have C : CT p s m args meth c cX2_commonDivisor RX2 11 := C
  have hl : lv_has ls 11 [(0, mV x), (2, mV y)] := hl
  refine lv_lload_n C.1 C.2.1 dX2_commonDivisor_0 rfl (lv_at hl 0 rfl) ?_
  refine lv_lstore (lv' := [(4, mV x), (0, mV x), (2, mV y)]) C.1 C.2.1 dX2_commonDivisor_1 hl (by decide) rfl (fun ls hl => ?_)
  refine lv_lload_n C.1 C.2.1 dX2_commonDivisor_3 rfl (lv_at hl 2 rfl) ?_
  refine lv_lstore (lv' := [(6, mV y), (4, mV x), (0, mV x), (2, mV y)]) C.1 C.2.1 dX2_commonDivisor_4 hl (by decide) rfl (fun ls hl => ?_)
  refine r_iconst 0 C dX2_commonDivisor_6 rfl ?_
  refine lv_istore (lv' := [(8, nV 0), (6, mV y), (4, mV x), (0, mV x), (2, mV y)]) C.1 C.2.1 dX2_commonDivisor_7 hl (by decide) rfl (fun ls hl => ?_)
  have L9 : ∀ (n : Nat) (i : Nat) (a : Nat) (b : Nat) (ls : Array Slot) (hi : i ≤ 100) (hg : Nat.gcd a b = Nat.gcd x y) (ha : a < 2199023255552 ∧ b < 2199023255552) (hp : (i = 0 ∧ 0 < b) ∨ (b < a ∧ a * b * 2 ^ i < 2 ^ 84)) (hm : 100 - i < n) (hl : lv_has ls 11 [(8, nV i), (6, mV b), (4, mV a), (0, mV x), (2, mV y)]), W p l e (rD 1) s m args below meth c s.heap [] 0 0 Q (F0 m 9 ls []) := by
    intro n
    induction n with
    | zero => intro i a b ls hi hg ha hp hm hl; exact absurd hm (Nat.not_lt_zero _)
    | succ n ih =>
      intro i a b ls hi hg ha hp hm hl
      refine lv_iload C.1 C.2.1 dX2_commonDivisor_9 (lv_at hl 0 rfl) ?_
      refine r_bipush 100 C dX2_commonDivisor_11 (by decide) ?_
      refine r_cge 44 C dX2_commonDivisor_13 rfl ⟨rgN (by omega), rgN (by decide)⟩ (fun h_1 => ?_) (fun h_1 => ?_)
      · skip
        refine lv_lload C.1 C.2.1 dX2_commonDivisor_44 (lv_at hl 2 rfl) ?_
        exact ret dX2_commonDivisor_46 (congrArg (fun q : Nat => lI (q : Int)) (hp.elim (fun q => by exfalso; omega) (fun q => by rw [← hg, (show b = 0 by first | omega | exact eu_end q.1 (by omega) q.2), Nat.gcd_zero_right])))
      refine lv_lload C.1 C.2.1 dX2_commonDivisor_16 (lv_at hl 1 rfl) ?_
      refine r_lconst 0 C dX2_commonDivisor_18 rfl ?_
      refine r_leq 44 C dX2_commonDivisor_19 dX2_commonDivisor_20 rfl ⟨rlN (by omega), rlN (by decide)⟩ (fun h_2 => ?_) (fun h_2 => ?_)
      · skip
        refine lv_lload C.1 C.2.1 dX2_commonDivisor_44 (lv_at hl 2 rfl) ?_
        exact ret dX2_commonDivisor_46 (congrArg (fun q : Nat => lI (q : Int)) (hp.elim (fun q => by exfalso; omega) (fun q => by rw [← hg, (show b = 0 by first | omega | exact eu_end q.1 (by omega) q.2), Nat.gcd_zero_right])))
      refine lv_lload C.1 C.2.1 dX2_commonDivisor_23 (lv_at hl 2 rfl) ?_
      refine lv_lload C.1 C.2.1 dX2_commonDivisor_25 (lv_at hl 1 rfl) ?_
      refine r_lremN C dX2_commonDivisor_27 (by omega) (by omega) ?_
      have hq_3 : a % b < b := Nat.mod_lt _ (by omega)
      refine lv_lstore (lv' := [(9, mV (a % b)), (8, nV i), (6, mV b), (4, mV a), (0, mV x), (2, mV y)]) C.1 C.2.1 dX2_commonDivisor_28 hl (by decide) rfl (fun ls hl => ?_)
      refine lv_lload C.1 C.2.1 dX2_commonDivisor_30 (lv_at hl 2 rfl) ?_
      refine lv_lstore (lv' := [(4, mV b), (9, mV (a % b)), (8, nV i), (6, mV b), (0, mV x), (2, mV y)]) C.1 C.2.1 dX2_commonDivisor_32 hl (by decide) rfl (fun ls hl => ?_)
      refine lv_lload C.1 C.2.1 dX2_commonDivisor_34 (lv_at hl 1 rfl) ?_
      refine lv_lstore (lv' := [(6, mV (a % b)), (4, mV b), (9, mV (a % b)), (8, nV i), (0, mV x), (2, mV y)]) C.1 C.2.1 dX2_commonDivisor_36 hl (by decide) rfl (fun ls hl => ?_)
      refine r_incN (k := 3) (n := 1) [(8, nV (i + 1)), (6, mV (a % b)), (4, mV b), (9, mV (a % b)), (0, mV x), (2, mV y)] C dX2_commonDivisor_38 hl rfl rfl (by decide) rfl (fun ls hl => ?_)
      refine r_goto 9 C dX2_commonDivisor_41 rfl ?_
      exact ih (i + 1) b (a % b) _ (by first | assumption | omega) (by rw [← hg, Nat.gcd_comm b, ← Nat.gcd_rec, Nat.gcd_comm]) (⟨by omega, by omega⟩) (Or.inr ⟨by omega, hp.elim (fun q => by rw [q.1]; exact eu_first q.2 (by omega)) (fun q => eu_step q.1 (by omega) q.2)⟩) (by omega) (lv_sub hl [0, 1, 2, 4, 5] rfl)
  exact L9 (100 - 0 + 1) 0 x y _ (by first | assumption | omega) (rfl) (by first | assumption | omega) (Or.inl ⟨rfl, hy.1⟩) (Nat.lt_succ_self _) (lv_sub hl [0, 1, 2, 3, 4] rfl)
set_option maxHeartbeats 4000000 in
set_option maxRecDepth 100000 in
theorem c_X2_lowest (l : Launch) (g : GG) (x : Nat) (y : Nat) (w : Nat) (hx : x < 2199023255552) (hy : 0 < y ∧ y < 2199023255552) (hw : w < 2) : ROl g l yX2_lowest cX2_lowest 9 (some .long) 2 [] [mV x, mV y, nV w] (fun r => r = lI ((low x y w : Nat) : Int)) := by
  refine ro_startL (by decide +kernel) (Nat.le_of_ble_eq_true rfl) ?_
  intro p e s m args below meth c Q ls C hK hP ret hl
  have C : CT p s m args meth c cX2_lowest RX2 9 := C
  have hl : lv_has ls 9 [(0, mV x), (2, mV y), (4, nV w)] := hl
  refine lv_lload_n C.1 C.2.1 dX2_lowest_0 rfl (lv_at hl 0 rfl) ?_
  refine lv_lload_n C.1 C.2.1 dX2_lowest_1 rfl (lv_at hl 1 rfl) ?_
  refine ro_callSL (As := [mV x, mV y]) (rest := []) C hK (c_X2_commonDivisor l g x y (by first | assumption | omega) (by first | assumption | omega)) hP kc_X2_commonDivisor kl_X2_7 kn_X2 ks_X2_commonDivisor nk_X2_commonDivisor (rm_lt (by decide) (by decide)) hl rfl (Nat.le_of_ble_eq_true rfl) dX2_lowest_2 (fun r_1 hr_2 => ?_)
  subst hr_2
  refine r_nameM (fun q1 hq1 => ?_)
  refine lv_lstore (lv' := [(5, mV q1), (0, mV x), (2, mV y), (4, nV w)]) C.1 C.2.1 dX2_lowest_5 hl (by decide) rfl (fun ls hl => ?_)
  have hq2 : 0 < q1 ∧ q1 ≤ y := by rw [hq1]; exact ⟨Nat.gcd_pos_of_pos_right _ hy.1, Nat.gcd_le_right _ hy.1⟩
  refine lv_iload C.1 C.2.1 dX2_lowest_7 (lv_at hl 3 rfl) ?_
  refine r_ine 16 C dX2_lowest_9 rfl (rgN (by omega)) (fun h_3 => ?_) (fun h_3 => ?_)
  · skip
    refine lv_lload_n C.1 C.2.1 dX2_lowest_16 rfl (lv_at hl 2 rfl) ?_
    refine lv_lstore (lv' := [(7, mV y), (5, mV q1), (0, mV x), (2, mV y), (4, nV w)]) C.1 C.2.1 dX2_lowest_17 hl (by decide) rfl (fun ls hl => ?_)
    refine lv_lload C.1 C.2.1 dX2_lowest_19 (lv_at hl 1 rfl) ?_
    refine r_lconst 0 C dX2_lowest_21 rfl ?_
    refine r_lle 34 C dX2_lowest_22 dX2_lowest_23 rfl ⟨rlN (by omega), rlN (by decide)⟩ (fun h_4 => ?_) (fun h_4 => ?_)
    · exact absurd h_4 (by omega)
    refine lv_lload C.1 C.2.1 dX2_lowest_26 (lv_at hl 0 rfl) ?_
    refine lv_lload C.1 C.2.1 dX2_lowest_28 (lv_at hl 1 rfl) ?_
    refine r_ldivN C dX2_lowest_30 (by omega) (by omega) ?_
    refine r_goto 36 C dX2_lowest_31 rfl ?_
    exact ret dX2_lowest_36 (congrArg (fun q : Nat => lI (q : Int)) (by unfold low; first | rw [if_pos (by omega), hq1] | rw [if_neg (by omega), hq1]))
  refine lv_lload_n C.1 C.2.1 dX2_lowest_12 rfl (lv_at hl 1 rfl) ?_
  refine r_goto 17 C dX2_lowest_13 rfl ?_
  refine lv_lstore (lv' := [(7, mV x), (5, mV q1), (0, mV x), (2, mV y), (4, nV w)]) C.1 C.2.1 dX2_lowest_17 hl (by decide) rfl (fun ls hl => ?_)
  refine lv_lload C.1 C.2.1 dX2_lowest_19 (lv_at hl 1 rfl) ?_
  refine r_lconst 0 C dX2_lowest_21 rfl ?_
  refine r_lle 34 C dX2_lowest_22 dX2_lowest_23 rfl ⟨rlN (by omega), rlN (by decide)⟩ (fun h_5 => ?_) (fun h_5 => ?_)
  · exact absurd h_5 (by omega)
  refine lv_lload C.1 C.2.1 dX2_lowest_26 (lv_at hl 0 rfl) ?_
  refine lv_lload C.1 C.2.1 dX2_lowest_28 (lv_at hl 1 rfl) ?_
  refine r_ldivN C dX2_lowest_30 (by omega) (by omega) ?_
  refine r_goto 36 C dX2_lowest_31 rfl ?_
  exact ret dX2_lowest_36 (congrArg (fun q : Nat => lI (q : Int)) (by unfold low; first | rw [if_pos (by omega), hq1] | rw [if_neg (by omega), hq1]))
set_option maxHeartbeats 4000000 in
set_option maxRecDepth 100000 in
theorem c_X7_length (l : Launch) (g : GG) (t : Nat) (t0 : Nat) (Lt : Nat)  : ROi g l yX7_length cX7_length 1 (some .int) 1 [(t, .inr (5, [.ref t0, nV Lt]))] [.ref t] (fun r => r = iI ((Lt : Nat) : Int)) := by
  refine ro_startI (by decide +kernel) (Nat.le_of_ble_eq_true rfl) ?_
  intro p e s m args below meth c Q ls C hK hP ret hl
  have C : CT p s m args meth c cX7_length RX7 1 := C
  have hl : lv_has ls 1 [(0, .ref t)] := hl
  refine lv_aload_n C.1 C.2.1 dX7_length_0 rfl (lv_at hl 0 rfl) ?_
  refine r_get C hK hP kw_X7 (ci := 5) rfl 0 1 (by decide) kf_X7_13 rfl rfl dX7_length_1 ?_
  exact ret dX7_length_4 (by first | rfl | exact iI_cast (by omega) | exact congrArg lI (by omega) | omega)
set_option maxHeartbeats 4000000 in
set_option maxRecDepth 100000 in
theorem c_X7_hasRoom (l : Launch) (g : GG) (t : Nat) (t0 : Nat) (Lt : Nat) (x : Nat) (hLt : Lt ≤ 300) (hx : x < 9) : ROi g l yX7_hasRoom cX7_hasRoom 2 (some .boolean) 1 [(t, .inr (5, [.ref t0, nV Lt]))] [.ref t, nV x] (fun r => r = bI (Lt + x ≤ 300)) := by
  refine ro_startZ (by decide +kernel) (Nat.le_of_ble_eq_true rfl) ?_
  intro p e s m args below meth c Q ls C hK hP ret hl
  have C : CT p s m args meth c cX7_hasRoom RX7 2 := C
  have hl : lv_has ls 2 [(0, .ref t), (1, nV x)] := hl
  refine lv_aload_n C.1 C.2.1 dX7_hasRoom_0 rfl (lv_at hl 0 rfl) ?_
  refine r_get C hK hP kw_X7 (ci := 5) rfl 0 1 (by decide) kf_X7_13 rfl rfl dX7_hasRoom_1 ?_
  refine lv_iload_n C.1 C.2.1 dX7_hasRoom_4 rfl (lv_at hl 1 rfl) ?_
  refine r_addN C dX7_hasRoom_5 ?_
  refine r_sipush 300 C dX7_hasRoom_6 (by decide) ?_
  refine r_cgt 16 C dX7_hasRoom_9 rfl ⟨rgN (by omega), rgN (by decide)⟩ (fun h_1 => ?_) (fun h_1 => ?_)
  · skip
    refine r_iconst 0 C dX7_hasRoom_16 rfl ?_
    exact ret dX7_hasRoom_17 (by decide) (bI_z (by omega))
  refine r_iconst 1 C dX7_hasRoom_12 rfl ?_
  refine r_goto 17 C dX7_hasRoom_13 rfl ?_
  exact ret dX7_hasRoom_17 (by decide) (bI_1 (by omega))
set_option maxHeartbeats 4000000 in
set_option maxRecDepth 100000 in
theorem c_X7_byteAt (l : Launch) (g : GG) (t : Nat) (t0 : Nat) (u : Nat → Nat) (Lt : Nat) (x : Nat) (hu : ∀ j, u j < 256) (hLt : Lt ≤ 300) (hx : x < 2147483648) : ROi g l yX7_byteAt cX7_byteAt 2 (some .int) 1 [(t, .inr (5, [.ref t0, nV Lt])), (t0, cB g 300 u)] [.ref t, nV x] (fun r => r = iI (chr u Lt x)) := by
  refine ro_startI (by decide +kernel) (Nat.le_of_ble_eq_true rfl) ?_
  intro p e s m args below meth c Q ls C hK hP ret hl
  have C : CT p s m args meth c cX7_byteAt RX7 2 := C
  have hl : lv_has ls 2 [(0, .ref t), (1, nV x)] := hl
  refine lv_iload_n C.1 C.2.1 dX7_byteAt_0 rfl (lv_at hl 1 rfl) ?_
  refine r_ilt 34 C dX7_byteAt_1 rfl (rgN (by omega)) (fun h_1 => ?_) (fun h_1 => ?_)
  · exact absurd h_1 (by omega)
  refine lv_iload_n C.1 C.2.1 dX7_byteAt_4 rfl (lv_at hl 1 rfl) ?_
  refine lv_aload_n C.1 C.2.1 dX7_byteAt_5 rfl (lv_at hl 0 rfl) ?_
  refine r_get C hK hP kw_X7 (ci := 5) rfl 0 1 (by decide) kf_X7_13 rfl rfl dX7_byteAt_6 ?_
  refine r_cge 34 C dX7_byteAt_9 rfl ⟨rgN (by omega), rgN (by omega)⟩ (fun h_2 => ?_) (fun h_2 => ?_)
  · skip
    refine r_iconstZ C dX7_byteAt_34 ?_
    exact ret dX7_byteAt_35 (iI_cast (by unfold chr; rw [if_neg (by omega)]))
  refine lv_iload_n C.1 C.2.1 dX7_byteAt_12 rfl (lv_at hl 1 rfl) ?_
  refine lv_aload_n C.1 C.2.1 dX7_byteAt_13 rfl (lv_at hl 0 rfl) ?_
  refine r_get C hK hP kw_X7 (ci := 5) rfl 0 0 (by decide) kf_X7_9 rfl rfl dX7_byteAt_14 ?_
  refine r_alen 300 (t0 := 0) C hK hP 1 rfl rfl rfl dX7_byteAt_17 ?_
  refine r_cge 34 C dX7_byteAt_18 rfl ⟨rgN (by omega), rgN (by decide)⟩ (fun h_3 => ?_) (fun h_3 => ?_)
  · exact absurd h_3 (by omega)
  refine lv_aload_n C.1 C.2.1 dX7_byteAt_21 rfl (lv_at hl 0 rfl) ?_
  refine r_get C hK hP kw_X7 (ci := 5) rfl 0 0 (by decide) kf_X7_9 rfl rfl dX7_byteAt_22 ?_
  refine lv_iload_n C.1 C.2.1 dX7_byteAt_25 rfl (lv_at hl 1 rfl) ?_
  refine r_aldB C hK hP 1 rfl ⟨by omega, by omega⟩ dX7_byteAt_26 ?_
  refine r_sipush 255 C dX7_byteAt_27 (by decide) ?_
  refine lv_iand C.1 C.2.1 dX7_byteAt_30 ?_
  refine r_goto 35 C dX7_byteAt_31 rfl ?_
  exact ret dX7_byteAt_35 (by unfold chr; rw [if_pos (by omega)]; exact (sb_byte _ (hu _)).1.trans (iI_nI _).symm)
set_option maxHeartbeats 4000000 in
set_option maxRecDepth 100000 in
theorem c_X7_clear (l : Launch) (g : GG) (t : Nat) (t0 : Nat) (Lt : Nat)  : WRv g l yX7_clear cX7_clear 1 1 [(t, .inr (5, [.ref t0, nV Lt]))] [.ref t] (fun (_ : Unit) => True) (fun (_ : Unit) => [(t, .inr (5, [.ref t0, nV 0]))]) := by
  refine wr_startV (by decide +kernel) (Nat.le_of_ble_eq_true rfl) ?_
  intro p e s m args below meth c Q A ls C hK hA ret hP hD hS hl
  have C : CT p s m args meth c cX7_clear RX7 1 := C
  have hl : lv_has ls 1 [(0, .ref t)] := hl
  refine lv_aload_n C.1 C.2.1 dX7_clear_0 rfl (lv_at hl 0 rfl) ?_
  refine r_iconst 0 C dX7_clear_1 rfl ?_
  refine r_put (v := nV 0) C hK hP hD hS kw_X7 tyX7_ok nmX7 (ci := 5) rfl 0 1 (by decide) kf_X7_13 rfl rfl rfl rfl rfl (Nat.le_of_ble_eq_true rfl) dX7_clear_2 (fun H locs hP hD hS => ?_)
  have hP : va_P g.1 vwCl [(t, .inr (5, [.ref t0, nV 0]))] H := hP
  have hD : va_D A [(t, .inr (5, [.ref t0, nV 0]))] := hD
  exact ret (()) dX7_clear_5 hS hP (trivial)
set_option maxHeartbeats 4000000 in
set_option maxRecDepth 100000 in
theorem c_X7_append (l : Launch) (g : GG) (t : Nat) (t0 : Nat) (u : Nat → Nat) (Lt : Nat) (nn : Nat) (v : Int64) (hr : Lt + nn ≤ 300) (hn : 1 ≤ nn ∧ nn ≤ 8) : WRv g l yX7_append cX7_append 5 1 [(t, .inr (5, [.ref t0, nV Lt])), (t0, cB g 300 u)] [.ref t, nV nn, .long v] (fun (_ : Unit) => True) (fun (_ : Unit) => [(t, .inr (5, [.ref t0, nV (Lt + nn)])), (t0, cB g 300 (wrt u Lt v nn nn))]) := by
  refine wr_startV (by decide +kernel) (Nat.le_of_ble_eq_true rfl) ?_
  intro p e s m args below meth c Q A ls C hK hA ret hP hD hS hl
  have C : CT p s m args meth c cX7_append RX7 5 := C
  have hl : lv_has ls 5 [(0, .ref t), (1, nV nn), (2, .long v)] := hl
  refine lv_iload_n C.1 C.2.1 dX7_append_0 rfl (lv_at hl 1 rfl) ?_
  refine r_iconst 1 C dX7_append_1 rfl ?_
  refine r_subN C dX7_append_2 (by omega) ?_
  refine lv_istore (lv' := [(4, nV (nn - 1)), (0, .ref t), (1, nV nn), (2, .long v)]) C.1 C.2.1 dX7_append_3 hl (by decide) rfl (fun ls hl => ?_)
  have L5 : ∀ (n : Nat) (i : Nat) (z : Int) (ub : Nat → Nat) (H : Heap) (locs : List Loc) (ls : Array Slot) (hi : i ≤ nn) (hz : z = (nn : Int) - 1 - (i : Int)) (hub : ub = wrt u Lt v nn i) (hm : nn - i < n) (hP : va_P g.1 vwCl [(t, .inr (5, [.ref t0, nV (Lt + i)])), (t0, cB g 300 ub)] H) (hD : va_D A [(t, .inr (5, [.ref t0, nV (Lt + i)])), (t0, cB g 300 ub)]) (hS : va_S A s.heap H locs) (hl : lv_has ls 5 [(4, zV z), (0, .ref t), (1, nV nn), (2, .long v)]), W p l e (rD 1) s m args below meth c H locs 0 0 Q (F0 m 5 ls []) := by
    intro n
    induction n with
    | zero => intro i z ub H locs ls hi hz hub hm hP hD hS hl; exact absurd hm (Nat.not_lt_zero _)
    | succ n ih =>
      intro i z ub H locs ls hi hz hub hm hP hD hS hl
      refine lv_iload C.1 C.2.1 dX7_append_5 (lv_at hl 0 rfl) ?_
      refine r_ilt 63 C dX7_append_7 rfl (⟨by omega, by omega⟩) (fun h_1 => ?_) (fun h_1 => ?_)
      · skip
        exact ret (()) dX7_append_63 hS (by rw [hub, show i = nn by omega] at hP; exact hP) (trivial)
      refine lv_aload_n C.1 C.2.1 dX7_append_10 rfl (lv_at hl 1 rfl) ?_
      refine r_get C hK hP kw_X7 (ci := 5) rfl 0 1 (by decide) kf_X7_13 rfl rfl dX7_append_11 ?_
      refine r_ilt 57 C dX7_append_14 rfl (rgN (by omega)) (fun h_2 => ?_) (fun h_2 => ?_)
      · exact absurd h_2 (by omega)
      refine lv_aload_n C.1 C.2.1 dX7_append_17 rfl (lv_at hl 1 rfl) ?_
      refine r_get C hK hP kw_X7 (ci := 5) rfl 0 1 (by decide) kf_X7_13 rfl rfl dX7_append_18 ?_
      refine lv_aload_n C.1 C.2.1 dX7_append_21 rfl (lv_at hl 1 rfl) ?_
      refine r_get C hK hP kw_X7 (ci := 5) rfl 0 0 (by decide) kf_X7_9 rfl rfl dX7_append_22 ?_
      refine r_alen 300 (t0 := 0) C hK hP 1 rfl rfl rfl dX7_append_25 ?_
      refine r_cge 57 C dX7_append_26 rfl ⟨rgN (by omega), rgN (by decide)⟩ (fun h_3 => ?_) (fun h_3 => ?_)
      · exact absurd h_3 (by omega)
      refine lv_aload_n C.1 C.2.1 dX7_append_29 rfl (lv_at hl 1 rfl) ?_
      refine r_get C hK hP kw_X7 (ci := 5) rfl 0 0 (by decide) kf_X7_9 rfl rfl dX7_append_30 ?_
      refine lv_aload_n C.1 C.2.1 dX7_append_33 rfl (lv_at hl 1 rfl) ?_
      refine r_get C hK hP kw_X7 (ci := 5) rfl 0 1 (by decide) kf_X7_13 rfl rfl dX7_append_34 ?_
      refine lv_lload_n C.1 C.2.1 dX7_append_37 rfl (lv_at hl 3 rfl) ?_
      refine r_bipush 8 C dX7_append_38 (by decide) ?_
      refine lv_iload C.1 C.2.1 dX7_append_40 (lv_at hl 0 rfl) ?_
      refine r_mulZ C dX7_append_42 ?_
      refine lv_lushr C.1 C.2.1 dX7_append_43 rfl ?_
      refine lv_l2i C.1 C.2.1 dX7_append_44 rfl ?_
      refine lv_i2b C.1 C.2.1 dX7_append_45 rfl ?_
      refine r_astB (u := by8 v (nn - 1 - i)) C hK hP hD hS 1 rfl ⟨by omega, by omega⟩ (by8_ushr (k := nn - 1 - i) (by omega) (by omega)) dX7_append_46 (fun H locs hP hD hS => ?_)
      have hP : va_P g.1 vwCl [(t, .inr (5, [.ref t0, nV (Lt + i)])), (t0, cB g 300 (upN ub (Lt + i) (by8 v (nn - 1 - i))))] H := hP
      have hD : va_D A [(t, .inr (5, [.ref t0, nV (Lt + i)])), (t0, cB g 300 (upN ub (Lt + i) (by8 v (nn - 1 - i))))] := hD
      refine lv_aload_n C.1 C.2.1 dX7_append_47 rfl (lv_at hl 1 rfl) ?_
      refine lv_dup C.1 C.2.1 dX7_append_48 rfl ?_
      refine r_get C hK hP kw_X7 (ci := 5) rfl 0 1 (by decide) kf_X7_13 rfl rfl dX7_append_49 ?_
      refine r_iconst 1 C dX7_append_52 rfl ?_
      refine r_addN C dX7_append_53 ?_
      refine r_put (v := nV ((Lt + i) + 1)) C hK hP hD hS kw_X7 tyX7_ok nmX7 (ci := 5) rfl 0 1 (by decide) kf_X7_13 rfl rfl rfl rfl rfl (Nat.le_of_ble_eq_true rfl) dX7_append_54 (fun H locs hP hD hS => ?_)
      have hP : va_P g.1 vwCl [(t, .inr (5, [.ref t0, nV ((Lt + i) + 1)])), (t0, cB g 300 (upN ub (Lt + i) (by8 v (nn - 1 - i))))] H := hP
      have hD : va_D A [(t, .inr (5, [.ref t0, nV ((Lt + i) + 1)])), (t0, cB g 300 (upN ub (Lt + i) (by8 v (nn - 1 - i))))] := hD
      refine r_incZ (k := 0) [(4, zV (z + (-1))), (0, .ref t), (1, nV nn), (2, .long v)] C dX7_append_57 hl rfl (by decide) rfl (fun ls hl => ?_)
      refine r_goto 5 C dX7_append_60 rfl ?_
      exact ih (i + 1) (z + (-1)) (upN ub (Lt + i) (by8 v (nn - 1 - i))) _ _ _ (by first | assumption | omega) (by first | assumption | omega) (by rw [hub]; exact wrt_s) (by omega) hP hD hS (lv_sub hl [0, 1, 2, 3] rfl)
  exact L5 (nn - 0 + 1) 0 ((nn - 1 : Nat) : Int) u _ _ _ (by first | assumption | omega) (by first | assumption | omega) (wrt_0.symm) (Nat.lt_succ_self _) hP hD hS (lv_sub hl [0, 1, 2, 3] rfl)
end
section
/-! ===== valleys ===== -/
abbrev VS : Type := (Nat → Nat) × (Nat → Nat) × (Nat → Nat) × (Nat → Nat) × (Nat → Nat) × Nat × Nat × Nat × Nat × Nat
def aw (sg : Nat → Nat) (k x y w : Nat) : Bool := decide (x ≤ 5 ∧ y ≤ 3 ∧ w ≤ 2 ∧ k < 8 ∧ rd sg k (x + 6 * y + 24 * w) = -4)
def al (x y : Nat) : Bool := decide ((1 ≤ x ∧ x ≤ 9) ∧ (1 ≤ y ∧ y ≤ 9))
def ac (nc x y : Nat) : Bool := decide (x ≤ 9 ∧ (1 ≤ y ∧ y ≤ 6) ∧ nc < 5)
def ab (nb x : Nat) : Bool := decide (x ≤ 63 ∧ nb < 5)
/-! ===== the larder's cells ===== -/
def ladd (ce : Nat → Nat) (w kd sn : Nat) : Nat → Nat := upN (upN (upN (upN (upN (upN ce 40 (ce 40 + 1)) (ce 40 * 5 + 0) w) (ce 40 * 5 + 1) kd) (ce 40 * 5 + 2) 0) (ce 40 * 5 + 3) 0) (ce 40 * 5 + 4) sn
def lbit (ce : Nat → Nat) (i : Nat) : Nat → Nat := upN ce (i * 5 + 3) (ce (i * 5 + 3) + 1)
def lday (ce : Nat → Nat) (i : Nat) : Nat → Nat := fun j => if j < i * 5 ∧ j % 5 = 2 then ce j + 1 else ce j
theorem lday_0 {ce : Nat → Nat} : lday ce 0 = ce := funext fun j => if_neg (by omega)
theorem lday_40 {ce : Nat → Nat} {i : Nat} : lday ce i 40 = ce 40 := if_neg (by omega)
theorem lday_at {ce : Nat → Nat} {i : Nat} : lday ce i (i * 5 + 2) = ce (i * 5 + 2) := if_neg (by omega)
theorem lday_s {ce : Nat → Nat} {i : Nat} : upN (lday ce i) (i * 5 + 2) (lday ce i (i * 5 + 2) + 1) = lday ce (i + 1) := by
  funext j
  rw [lday_at]
  unfold upN lday
  by_cases h : j = i * 5 + 2
  · subst h; rw [if_pos rfl, if_pos (by omega)]
  · rw [if_neg h]
    by_cases h2 : j < i * 5 ∧ j % 5 = 2
    · rw [if_pos h2, if_pos (by omega)]
    · rw [if_neg h2, if_neg (by omega)]
/-- cells from the i-th loaf on moved up, up to place b -/
def lmv (ce : Nat → Nat) (i b : Nat) : Nat → Nat := fun j => if i * 5 ≤ j ∧ j < b then ce (j + 5) else ce j
theorem lmv_0 {ce : Nat → Nat} {i : Nat} : lmv ce i (i * 5) = ce := funext fun j => if_neg (by omega)
theorem lmv_hi {ce : Nat → Nat} {i b j : Nat} (h : b ≤ j) : lmv ce i b j = ce j := if_neg (by omega)
theorem lmv_s {ce : Nat → Nat} {i b : Nat} (h : i * 5 ≤ b) : upN (lmv ce i b) b (lmv ce i b (b + 5)) = lmv ce i (b + 1) := by
  funext j
  rw [lmv_hi (by omega)]
  unfold upN lmv
  by_cases hj : j = b
  · subst hj; rw [if_pos rfl, if_pos (by omega)]
  · rw [if_neg hj]
    by_cases h2 : i * 5 ≤ j ∧ j < b
    · rw [if_pos h2, if_pos (by omega)]
    · rw [if_neg h2, if_neg (by omega)]
def lrem (ce : Nat → Nat) (i : Nat) : Nat → Nat := upN (lmv ce i ((ce 40 - 1) * 5)) 40 (ce 40 - 1)
/-! ===== shelves ===== -/
def srow (row ce : Nat → Nat) (nn dp sz : Nat) : Nat → Nat := if sz = dp then va_cpy ce (va_cpy row row 42 0 (nn - 42)) 0 ((sz - 1) * 42) 42 else va_cpy ce row 0 (sz * 42) 42
def ssz (dp sz : Nat) : Nat := if sz = dp then sz else sz + 1
end
section
set_option maxHeartbeats 4000000 in
set_option maxRecDepth 100000 in
theorem c_X8_words (l : Launch) (g : GG) (v : Nat) (v0 : Nat) (v1 : Nat) (v2 : Nat) (v3 : Nat) (v4 : Nat) (k : Nat) (nc : Nat) (nb : Nat) (bi : Nat) (mo : Nat)  : ROi g l yX8_words cX8_words 1 (some .int) 1 [(v, .inr (6, [.ref v0, .ref v1, .ref v2, .ref v3, .ref v4, nV k, nV nc, nV nb, nV bi, nV mo]))] [.ref v] (fun r => r = iI ((k : Nat) : Int)) := by
  refine ro_startI (by decide +kernel) (Nat.le_of_ble_eq_true rfl) ?_
  intro p e s m args below meth c Q ls C hK hP ret hl
  have C : CT p s m args meth c cX8_words RX8 1 := C
  have hl : lv_has ls 1 [(0, .ref v)] := hl
  refine lv_aload_n C.1 C.2.1 dX8_words_0 rfl (lv_at hl 0 rfl) ?_
  refine r_get C hK hP kw_X8 (ci := 6) rfl 0 5 (by decide) kf_X8_34 rfl rfl dX8_words_1 ?_
  exact ret dX8_words_4 (by first | rfl | exact iI_cast (by omega) | exact congrArg lI (by omega) | omega)
set_option maxHeartbeats 4000000 in
set_option maxRecDepth 100000 in
theorem c_X8_carriers (l : Launch) (g : GG) (v : Nat) (v0 : Nat) (v1 : Nat) (v2 : Nat) (v3 : Nat) (v4 : Nat) (k : Nat) (nc : Nat) (nb : Nat) (bi : Nat) (mo : Nat)  : ROi g l yX8_carriers cX8_carriers 1 (some .int) 1 [(v, .inr (6, [.ref v0, .ref v1, .ref v2, .ref v3, .ref v4, nV k, nV nc, nV nb, nV bi, nV mo]))] [.ref v] (fun r => r = iI ((nc : Nat) : Int)) := by
  refine ro_startI (by decide +kernel) (Nat.le_of_ble_eq_true rfl) ?_
  intro p e s m args below meth c Q ls C hK hP ret hl
  have C : CT p s m args meth c cX8_carriers RX8 1 := C
  have hl : lv_has ls 1 [(0, .ref v)] := hl
  refine lv_aload_n C.1 C.2.1 dX8_carriers_0 rfl (lv_at hl 0 rfl) ?_
  refine r_get C hK hP kw_X8 (ci := 6) rfl 0 6 (by decide) kf_X8_37 rfl rfl dX8_carriers_1 ?_
  exact ret dX8_carriers_4 (by first | rfl | exact iI_cast (by omega) | exact congrArg lI (by omega) | omega)
set_option maxHeartbeats 4000000 in
set_option maxRecDepth 100000 in
theorem c_X8_bakers (l : Launch) (g : GG) (v : Nat) (v0 : Nat) (v1 : Nat) (v2 : Nat) (v3 : Nat) (v4 : Nat) (k : Nat) (nc : Nat) (nb : Nat) (bi : Nat) (mo : Nat)  : ROi g l yX8_bakers cX8_bakers 1 (some .int) 1 [(v, .inr (6, [.ref v0, .ref v1, .ref v2, .ref v3, .ref v4, nV k, nV nc, nV nb, nV bi, nV mo]))] [.ref v] (fun r => r = iI ((nb : Nat) : Int)) := by
  refine ro_startI (by decide +kernel) (Nat.le_of_ble_eq_true rfl) ?_
  intro p e s m args below meth c Q ls C hK hP ret hl
  have C : CT p s m args meth c cX8_bakers RX8 1 := C
  have hl : lv_has ls 1 [(0, .ref v)] := hl
  refine lv_aload_n C.1 C.2.1 dX8_bakers_0 rfl (lv_at hl 0 rfl) ?_
  refine r_get C hK hP kw_X8 (ci := 6) rfl 0 7 (by decide) kf_X8_40 rfl rfl dX8_bakers_1 ?_
  exact ret dX8_bakers_4 (by first | rfl | exact iI_cast (by omega) | exact congrArg lI (by omega) | omega)
set_option maxHeartbeats 4000000 in
set_option maxRecDepth 100000 in
theorem c_X8_signOf (l : Launch) (g : GG) (v : Nat) (v0 : Nat) (v1 : Nat) (v2 : Nat) (v3 : Nat) (v4 : Nat) (sg : Nat → Nat) (k : Nat) (nc : Nat) (nb : Nat) (bi : Nat) (mo : Nat) (i : Nat) (hi : i < 8) : ROi g l yX8_signOf cX8_signOf 2 (some .int) 2 [(v, .inr (6, [.ref v0, .ref v1, .ref v2, .ref v3, .ref v4, nV k, nV nc, nV nb, nV bi, nV mo])), (v0, cN g 8 sg)] [.ref v, nV i] (fun r => r = iI ((sg i : Nat) : Int)) := by
  refine ro_startI (by decide +kernel) (Nat.le_of_ble_eq_true rfl) ?_
  intro p e s m args below meth c Q ls C hK hP ret hl
  have C : CT p s m args meth c cX8_signOf RX8 2 := C
  have hl : lv_has ls 2 [(0, .ref v), (1, nV i)] := hl
  refine lv_aload_n C.1 C.2.1 dX8_signOf_0 rfl (lv_at hl 0 rfl) ?_
  refine r_get C hK hP kw_X8 (ci := 6) rfl 0 0 (by decide) kf_X8_11 rfl rfl dX8_signOf_1 ?_
  refine lv_iload_n C.1 C.2.1 dX8_signOf_4 rfl (lv_at hl 1 rfl) ?_
  refine ro_callSN (As := [.ref v0, nV i]) (rest := []) C hK (c_X9_at l g v0 8 sg i (by first | assumption | omega) (by first | assumption | omega)) (hP.sub (ws' := [(v0, cN g 8 sg)]) [1] rfl) kc_X9_at kx_X8_57 kn_X9 ks_X9_at nk_X9_at (rm_lt (by decide) (by decide)) hl rfl (Nat.le_of_ble_eq_true rfl) dX8_signOf_5 (fun r_1 hr_2 => ?_)
  subst hr_2
  exact ret dX8_signOf_8 (by first | rfl | exact iI_cast (by omega) | exact congrArg lI (by omega) | omega)
set_option maxHeartbeats 4000000 in
set_option maxRecDepth 100000 in
theorem c_X8_worthOf (l : Launch) (g : GG) (v : Nat) (v0 : Nat) (v1 : Nat) (v2 : Nat) (v3 : Nat) (v4 : Nat) (wo : Nat → Nat) (k : Nat) (nc : Nat) (nb : Nat) (bi : Nat) (mo : Nat) (i : Nat) (hi : i < 8) : ROi g l yX8_worthOf cX8_worthOf 2 (some .int) 2 [(v, .inr (6, [.ref v0, .ref v1, .ref v2, .ref v3, .ref v4, nV k, nV nc, nV nb, nV bi, nV mo])), (v1, cN g 8 wo)] [.ref v, nV i] (fun r => r = iI ((wo i : Nat) : Int)) := by
  refine ro_startI (by decide +kernel) (Nat.le_of_ble_eq_true rfl) ?_
  intro p e s m args below meth c Q ls C hK hP ret hl
  have C : CT p s m args meth c cX8_worthOf RX8 2 := C
  have hl : lv_has ls 2 [(0, .ref v), (1, nV i)] := hl
  refine lv_aload_n C.1 C.2.1 dX8_worthOf_0 rfl (lv_at hl 0 rfl) ?_
  refine r_get C hK hP kw_X8 (ci := 6) rfl 0 1 (by decide) kf_X8_15 rfl rfl dX8_worthOf_1 ?_
  refine lv_iload_n C.1 C.2.1 dX8_worthOf_4 rfl (lv_at hl 1 rfl) ?_
  refine ro_callSN (As := [.ref v1, nV i]) (rest := []) C hK (c_X9_at l g v1 8 wo i (by first | assumption | omega) (by first | assumption | omega)) (hP.sub (ws' := [(v1, cN g 8 wo)]) [1] rfl) kc_X9_at kx_X8_57 kn_X9 ks_X9_at nk_X9_at (rm_lt (by decide) (by decide)) hl rfl (Nat.le_of_ble_eq_true rfl) dX8_worthOf_5 (fun r_1 hr_2 => ?_)
  subst hr_2
  exact ret dX8_worthOf_8 (by first | rfl | exact iI_cast (by omega) | exact congrArg lI (by omega) | omega)
set_option maxHeartbeats 4000000 in
set_option maxRecDepth 100000 in
theorem c_X8_milesOf (l : Launch) (g : GG) (v : Nat) (v0 : Nat) (v1 : Nat) (v2 : Nat) (v3 : Nat) (v4 : Nat) (mi : Nat → Nat) (k : Nat) (nc : Nat) (nb : Nat) (bi : Nat) (mo : Nat) (i : Nat) (hi : i < 5) : ROi g l yX8_milesOf cX8_milesOf 2 (some .int) 2 [(v, .inr (6, [.ref v0, .ref v1, .ref v2, .ref v3, .ref v4, nV k, nV nc, nV nb, nV bi, nV mo])), (v3, cN g 5 mi)] [.ref v, nV i] (fun r => r = iI ((mi i : Nat) : Int)) := by
  refine ro_startI (by decide +kernel) (Nat.le_of_ble_eq_true rfl) ?_
  intro p e s m args below meth c Q ls C hK hP ret hl
  have C : CT p s m args meth c cX8_milesOf RX8 2 := C
  have hl : lv_has ls 2 [(0, .ref v), (1, nV i)] := hl
  refine lv_aload_n C.1 C.2.1 dX8_milesOf_0 rfl (lv_at hl 0 rfl) ?_
  refine r_get C hK hP kw_X8 (ci := 6) rfl 0 3 (by decide) kf_X8_21 rfl rfl dX8_milesOf_1 ?_
  refine lv_iload_n C.1 C.2.1 dX8_milesOf_4 rfl (lv_at hl 1 rfl) ?_
  refine ro_callSN (As := [.ref v3, nV i]) (rest := []) C hK (c_X9_at l g v3 5 mi i (by first | assumption | omega) (by first | assumption | omega)) (hP.sub (ws' := [(v3, cN g 5 mi)]) [1] rfl) kc_X9_at kx_X8_57 kn_X9 ks_X9_at nk_X9_at (rm_lt (by decide) (by decide)) hl rfl (Nat.le_of_ble_eq_true rfl) dX8_milesOf_5 (fun r_1 hr_2 => ?_)
  subst hr_2
  exact ret dX8_milesOf_8 (by first | rfl | exact iI_cast (by omega) | exact congrArg lI (by omega) | omega)
set_option maxHeartbeats 4000000 in
set_option maxRecDepth 100000 in
theorem c_X8_readAs (l : Launch) (g : GG) (v : Nat) (v0 : Nat) (v1 : Nat) (v2 : Nat) (v3 : Nat) (v4 : Nat) (sg : Nat → Nat) (k : Nat) (nc : Nat) (nb : Nat) (bi : Nat) (mo : Nat) (x : Nat) (hsg : ∀ j, sg j < 72) (hk : k ≤ 8) (hx : x < 2147483648) : ROi g l yX8_readAs cX8_readAs 3 (some .int) 3 [(v, .inr (6, [.ref v0, .ref v1, .ref v2, .ref v3, .ref v4, nV k, nV nc, nV nb, nV bi, nV mo])), (v0, cN g 8 sg)] [.ref v, nV x] (fun r => r = iI (rd sg k x)) := by
  refine ro_startI (by decide +kernel) (Nat.le_of_ble_eq_true rfl) ?_
  intro p e s m args below meth c Q ls C hK hP ret hl
  have C : CT p s m args meth c cX8_readAs RX8 3 := C
  have hl : lv_has ls 3 [(0, .ref v), (1, nV x)] := hl
  refine r_iconst 0 C dX8_readAs_0 rfl ?_
  refine lv_istore_n (lv' := [(2, nV 0), (0, .ref v), (1, nV x)]) C.1 C.2.1 dX8_readAs_1 rfl hl (by decide) rfl (fun ls hl => ?_)
  have L2 : ∀ (n : Nat) (i : Nat) (ls : Array Slot) (hi : i ≤ k) (hno : ∀ j, j < i → sg j ≠ x) (hm : k - i < n) (hl : lv_has ls 3 [(2, nV i), (0, .ref v), (1, nV x)]), W p l e (rD 3) s m args below meth c s.heap [] 0 0 Q (F0 m 2 ls []) := by
    intro n
    induction n with
    | zero => intro i ls hi hno hm hl; exact absurd hm (Nat.not_lt_zero _)
    | succ n ih =>
      intro i ls hi hno hm hl
      refine lv_iload_n C.1 C.2.1 dX8_readAs_2 rfl (lv_at hl 0 rfl) ?_
      refine lv_aload_n C.1 C.2.1 dX8_readAs_3 rfl (lv_at hl 1 rfl) ?_
      refine r_get C hK hP kw_X8 (ci := 6) rfl 0 5 (by decide) kf_X8_34 rfl rfl dX8_readAs_4 ?_
      refine r_cge 27 C dX8_readAs_7 rfl ⟨rgN (by omega), rgN (by omega)⟩ (fun h_1 => ?_) (fun h_1 => ?_)
      · skip
        refine r_bipushZ C dX8_readAs_27 (by decide) ?_
        exact ret dX8_readAs_29 (iI_cast (rd_no (fun j hj => hno j (by omega))).symm)
      refine lv_aload_n C.1 C.2.1 dX8_readAs_10 rfl (lv_at hl 1 rfl) ?_
      refine lv_iload_n C.1 C.2.1 dX8_readAs_11 rfl (lv_at hl 0 rfl) ?_
      refine ro_callV (As := [nV i]) (rest := []) C hK (c_X8_signOf l g v v0 v1 v2 v3 v4 sg k nc nb bi mo i (by first | assumption | omega)) hP (ci := 6) (q0 := 0) rfl rfl kc_X8_signOf kl_X8_61 kn_X8 ki_X8_signOf ke_X8_signOf nk_X8_signOf (rm_lt (by decide) (by decide)) hl rfl (Nat.le_of_ble_eq_true rfl) dX8_readAs_12 (fun r_2 hr_3 => ?_)
      subst hr_3
      have hf_4 := hsg (i)
      refine lv_iload_n C.1 C.2.1 dX8_readAs_15 rfl (lv_at hl 2 rfl) ?_
      refine r_cne 21 C dX8_readAs_16 rfl ⟨rgN (by omega), rgN (by omega)⟩ (fun h_5 => ?_) (fun h_5 => ?_)
      · skip
        refine r_incN (k := 0) (n := 1) [(2, nV (i + 1)), (0, .ref v), (1, nV x)] C dX8_readAs_21 hl rfl rfl (by decide) rfl (fun ls hl => ?_)
        refine r_goto 2 C dX8_readAs_24 rfl ?_
        exact ih (i + 1) _ (by first | assumption | omega) (fun j hj => by by_cases q : j = i; (subst q; omega); exact hno j (by omega)) (by omega) (lv_sub hl [0, 1, 2] rfl)
      refine lv_iload_n C.1 C.2.1 dX8_readAs_19 rfl (lv_at hl 0 rfl) ?_
      exact ret dX8_readAs_20 (iI_cast (rd_of (by omega) (by omega) hno).symm)
  exact L2 (k - 0 + 1) 0 _ (by first | assumption | omega) (fun j hj => by omega) (Nat.lt_succ_self _) (lv_sub hl [0, 1, 2] rfl)
set_option maxHeartbeats 4000000 in
set_option maxRecDepth 100000 in
theorem c_X8_aged (l : Launch) (g : GG) (v : Nat) (v0 : Nat) (v1 : Nat) (v2 : Nat) (v3 : Nat) (v4 : Nat) (k : Nat) (nc : Nat) (nb : Nat) (bi : Nat) (mo : Nat) (x : Nat) (y : Nat) (hbm : (1 ≤ bi ∧ bi ≤ 9) ∧ (1 ≤ mo ∧ mo ≤ 9)) (hx : x < 72) (hy : y < 1073741824) : ROi g l yX8_aged cX8_aged 5 (some .int) 2 [(v, .inr (6, [.ref v0, .ref v1, .ref v2, .ref v3, .ref v4, nV k, nV nc, nV nb, nV bi, nV mo]))] [.ref v, nV x, nV y] (fun r => r = iI ((ag bi mo x y : Nat) : Int)) := by
  refine ro_startI (by decide +kernel) (Nat.le_of_ble_eq_true rfl) ?_
  intro p e s m args below meth c Q ls C hK hP ret hl
  have C : CT p s m args meth c cX8_aged RX8 5 := C
  have hl : lv_has ls 5 [(0, .ref v), (1, nV x), (2, nV y)] := hl
  refine lv_aload_n C.1 C.2.1 dX8_aged_0 rfl (lv_at hl 0 rfl) ?_
  refine r_get C hK hP kw_X8 (ci := 6) rfl 0 8 (by decide) kf_X8_27 rfl rfl dX8_aged_1 ?_
  refine r_ile 21 C dX8_aged_4 rfl (rgN (by omega)) (fun h_1 => ?_) (fun h_1 => ?_)
  · exact absurd h_1 (by omega)
  refine lv_iload_n C.1 C.2.1 dX8_aged_7 rfl (lv_at hl 1 rfl) ?_
  refine ro_callS (As := [nV x]) (rest := []) C hK (c_X6_seeds l g x (by first | assumption | omega)) (hP.sub (ws' := []) [] rfl) kc_X6_seeds kl_X8_64 kn_X6 ks_X6_seeds nk_X6_seeds (rm_lt (by decide) (by decide)) hl rfl (Nat.le_of_ble_eq_true rfl) dX8_aged_8 (fun r_2 hr_3 => ?_)
  subst hr_3
  refine lv_iload_n C.1 C.2.1 dX8_aged_11 rfl (lv_at hl 2 rfl) ?_
  refine lv_aload_n C.1 C.2.1 dX8_aged_12 rfl (lv_at hl 0 rfl) ?_
  refine r_get C hK hP kw_X8 (ci := 6) rfl 0 8 (by decide) kf_X8_27 rfl rfl dX8_aged_13 ?_
  refine r_divN C dX8_aged_16 (by omega) (by omega) ?_
  have hq_4 := Nat.div_le_self y bi
  refine r_nameN (fun q1 hq1 => ?_)
  refine r_subZ C dX8_aged_17 ?_
  refine r_goto 22 C dX8_aged_18 rfl ?_
  refine lv_istore_n (lv' := [(3, zV (((x % 6 : Nat) : Int) - ((q1 : Nat) : Int))), (0, .ref v), (1, nV x), (2, nV y)]) C.1 C.2.1 dX8_aged_22 rfl hl (by decide) rfl (fun ls hl => ?_)
  refine lv_aload_n C.1 C.2.1 dX8_aged_23 rfl (lv_at hl 1 rfl) ?_
  refine r_get C hK hP kw_X8 (ci := 6) rfl 0 9 (by decide) kf_X8_31 rfl rfl dX8_aged_24 ?_
  refine r_ile 44 C dX8_aged_27 rfl (rgN (by omega)) (fun h_5 => ?_) (fun h_5 => ?_)
  · exact absurd h_5 (by omega)
  refine lv_iload_n C.1 C.2.1 dX8_aged_30 rfl (lv_at hl 2 rfl) ?_
  refine ro_callS (As := [nV x]) (rest := []) C hK (c_X6_cuts l g x (by first | assumption | omega)) (hP.sub (ws' := []) [] rfl) kc_X6_cuts kl_X8_67 kn_X6 ks_X6_cuts nk_X6_cuts (rm_lt (by decide) (by decide)) hl rfl (Nat.le_of_ble_eq_true rfl) dX8_aged_31 (fun r_6 hr_7 => ?_)
  subst hr_7
  refine lv_iload_n C.1 C.2.1 dX8_aged_34 rfl (lv_at hl 3 rfl) ?_
  refine lv_aload_n C.1 C.2.1 dX8_aged_35 rfl (lv_at hl 1 rfl) ?_
  refine r_get C hK hP kw_X8 (ci := 6) rfl 0 9 (by decide) kf_X8_31 rfl rfl dX8_aged_36 ?_
  refine r_divN C dX8_aged_39 (by omega) (by omega) ?_
  have hq_8 := Nat.div_le_self y mo
  refine r_nameN (fun q2 hq2 => ?_)
  refine r_addN C dX8_aged_40 ?_
  refine r_goto 45 C dX8_aged_41 rfl ?_
  refine lv_istore (lv' := [(4, nV ((x / 6 % 4) + q2)), (3, zV (((x % 6 : Nat) : Int) - ((q1 : Nat) : Int))), (0, .ref v), (1, nV x), (2, nV y)]) C.1 C.2.1 dX8_aged_45 hl (by decide) rfl (fun ls hl => ?_)
  refine lv_iload_n C.1 C.2.1 dX8_aged_47 rfl (lv_at hl 1 rfl) ?_
  refine r_iconst 0 C dX8_aged_48 rfl ?_
  refine r_mmax C kl_X8_70 dX8_aged_49 ⟨⟨by omega, by omega⟩, rgN (by decide)⟩ ⟨Nat.le_of_ble_eq_true rfl, Nat.le_of_ble_eq_true rfl⟩ ⟨Nat.zero_le _, Nat.zero_le _⟩ hl ?_
  refine r_topN (x % 6 - q1) (by omega) ?_
  refine lv_iload C.1 C.2.1 dX8_aged_52 (lv_at hl 0 rfl) ?_
  refine r_iconst 3 C dX8_aged_54 rfl ?_
  refine r_mmin C kl_X8_76 dX8_aged_55 ⟨rgN (by omega), rgN (by decide)⟩ ⟨Nat.le_of_ble_eq_true rfl, Nat.le_of_ble_eq_true rfl⟩ ⟨Nat.zero_le _, Nat.zero_le _⟩ hl ?_
  refine r_topN (min (x / 6 % 4 + q2) 3) (by omega) ?_
  refine lv_iload_n C.1 C.2.1 dX8_aged_58 rfl (lv_at hl 3 rfl) ?_
  refine ro_callS (As := [nV x]) (rest := [nV (min (x / 6 % 4 + q2) 3), nV (x % 6 - q1)]) C hK (c_X6_filling l g x (by first | assumption | omega)) (hP.sub (ws' := []) [] rfl) kc_X6_filling kl_X8_79 kn_X6 ks_X6_filling nk_X6_filling (rm_lt (by decide) (by decide)) hl rfl (Nat.le_of_ble_eq_true rfl) dX8_aged_59 (fun r_9 hr_10 => ?_)
  subst hr_10
  refine ro_callS (As := [nV (x % 6 - q1), nV (min (x / 6 % 4 + q2) 3), nV (x / 24)]) (rest := []) C hK (c_X6_of l g (x % 6 - q1) (min (x / 6 % 4 + q2) 3) (x / 24)) (hP.sub (ws' := []) [] rfl) kc_X6_of kl_X8_47 kn_X6 ks_X6_of nk_X6_of (rm_lt (by decide) (by decide)) hl rfl (Nat.le_of_ble_eq_true rfl) dX8_aged_62 (fun r_11 hr_12 => ?_)
  subst hr_12
  exact ret dX8_aged_65 (by subst hq1 hq2; rfl)
set_option maxHeartbeats 4000000 in
set_option maxRecDepth 100000 in
theorem c_X8_turned (l : Launch) (g : GG) (v : Nat) (v0 : Nat) (v1 : Nat) (v2 : Nat) (v3 : Nat) (v4 : Nat) (k : Nat) (nc : Nat) (nb : Nat) (bi : Nat) (mo : Nat) (x : Nat) (y : Nat) (w : Nat) (hbm : (1 ≤ bi ∧ bi ≤ 9) ∧ (1 ≤ mo ∧ mo ≤ 9)) (hx : x < 72) (hy : y < 1073741824) (hw : w < 1073741824) : ROi g l yX8_turned cX8_turned 6 (some .int) 3 [(v, .inr (6, [.ref v0, .ref v1, .ref v2, .ref v3, .ref v4, nV k, nV nc, nV nb, nV bi, nV mo]))] [.ref v, nV x, nV y, nV w] (fun r => r = iI ((tn bi mo x y w : Nat) : Int)) := by
  refine ro_startI (by decide +kernel) (Nat.le_of_ble_eq_true rfl) ?_
  intro p e s m args below meth c Q ls C hK hP ret hl
  have C : CT p s m args meth c cX8_turned RX8 6 := C
  have hl : lv_has ls 6 [(0, .ref v), (1, nV x), (2, nV y), (3, nV w)] := hl
  refine lv_aload_n C.1 C.2.1 dX8_turned_0 rfl (lv_at hl 0 rfl) ?_
  refine lv_iload_n C.1 C.2.1 dX8_turned_1 rfl (lv_at hl 1 rfl) ?_
  refine lv_iload_n C.1 C.2.1 dX8_turned_2 rfl (lv_at hl 2 rfl) ?_
  refine ro_callV (As := [nV x, nV y]) (rest := []) C hK (c_X8_aged l g v v0 v1 v2 v3 v4 k nc nb bi mo x y (by first | assumption | omega) (by first | assumption | omega) (by first | assumption | omega)) hP (ci := 6) (q0 := 0) rfl rfl kc_X8_aged kl_X8_82 kn_X8 ki_X8_aged ke_X8_aged nk_X8_aged (rm_lt (by decide) (by decide)) hl rfl (Nat.le_of_ble_eq_true rfl) dX8_turned_3 (fun r_1 hr_2 => ?_)
  subst hr_2
  have hf_3 := ag_bd (bi) (mo) (x) (y) (by omega)
  refine lv_istore (lv' := [(4, nV (ag bi mo x y)), (0, .ref v), (1, nV x), (2, nV y), (3, nV w)]) C.1 C.2.1 dX8_turned_6 hl (by decide) rfl (fun ls hl => ?_)
  refine r_iconst 0 C dX8_turned_8 rfl ?_
  refine lv_istore (lv' := [(5, nV 0), (4, nV (ag bi mo x y)), (0, .ref v), (1, nV x), (2, nV y), (3, nV w)]) C.1 C.2.1 dX8_turned_9 hl (by decide) rfl (fun ls hl => ?_)
  have L11 : ∀ (n : Nat) (i : Nat) (t : Nat) (ls : Array Slot) (hi : i ≤ w) (ht : t = bts (ag bi mo x y) i) (htb : t < 72) (hm : w - i < n) (hl : lv_has ls 6 [(5, nV i), (4, nV t), (0, .ref v), (1, nV x), (2, nV y), (3, nV w)]), W p l e (rD 3) s m args below meth c s.heap [] 0 0 Q (F0 m 11 ls []) := by
    intro n
    induction n with
    | zero => intro i t ls hi ht htb hm hl; exact absurd hm (Nat.not_lt_zero _)
    | succ n ih =>
      intro i t ls hi ht htb hm hl
      refine lv_iload C.1 C.2.1 dX8_turned_11 (lv_at hl 0 rfl) ?_
      refine lv_iload_n C.1 C.2.1 dX8_turned_13 rfl (lv_at hl 5 rfl) ?_
      refine r_cge 30 C dX8_turned_14 rfl ⟨rgN (by omega), rgN (by omega)⟩ (fun h_4 => ?_) (fun h_4 => ?_)
      · skip
        refine lv_iload C.1 C.2.1 dX8_turned_30 (lv_at hl 1 rfl) ?_
        exact ret dX8_turned_32 (iI_cast (by rw [ht, show i = w by omega]; rfl))
      refine lv_iload C.1 C.2.1 dX8_turned_17 (lv_at hl 1 rfl) ?_
      refine ro_callS (As := [nV t]) (rest := []) C hK (c_X6_bitten l g t (by first | assumption | omega)) (hP.sub (ws' := []) [] rfl) kc_X6_bitten kl_X8_85 kn_X6 ks_X6_bitten nk_X6_bitten (rm_lt (by decide) (by decide)) hl rfl (Nat.le_of_ble_eq_true rfl) dX8_turned_19 (fun r_5 hr_6 => ?_)
      subst hr_6
      have hf_7 := bt_bd (t) (by omega)
      refine lv_istore (lv' := [(4, nV (bt t)), (5, nV i), (0, .ref v), (1, nV x), (2, nV y), (3, nV w)]) C.1 C.2.1 dX8_turned_22 hl (by decide) rfl (fun ls hl => ?_)
      refine r_incN (k := 1) (n := 1) [(5, nV (i + 1)), (4, nV (bt t)), (0, .ref v), (1, nV x), (2, nV y), (3, nV w)] C dX8_turned_24 hl rfl rfl (by decide) rfl (fun ls hl => ?_)
      refine r_goto 11 C dX8_turned_27 rfl ?_
      exact ih (i + 1) (bt t) _ (by first | assumption | omega) (by rw [ht]; rfl) (by first | assumption | omega) (by omega) (lv_sub hl [0, 1, 2, 3, 4, 5] rfl)
  exact L11 (w - 0 + 1) 0 (ag bi mo x y) _ (by first | assumption | omega) (rfl) (by first | assumption | omega) (Nat.lt_succ_self _) (lv_sub hl [0, 1, 2, 3, 4, 5] rfl)
set_option maxHeartbeats 4000000 in
set_option maxRecDepth 100000 in
theorem c_X8_waysRead (l : Launch) (g : GG) (v : Nat) (v0 : Nat) (v1 : Nat) (v2 : Nat) (v3 : Nat) (v4 : Nat) (sg : Nat → Nat) (hu : Nat → Nat) (mi : Nat → Nat) (k : Nat) (nc : Nat) (nb : Nat) (bi : Nat) (mo : Nat) (x : Nat) (y : Nat) (w : Nat) (hbm : (1 ≤ bi ∧ bi ≤ 9) ∧ (1 ≤ mo ∧ mo ≤ 9)) (hsg : ∀ j, sg j < 72) (hhu : ∀ j, hu j < 10) (hmi : ∀ j, mi j ≤ 6) (hx : x < 8) (hy : y < 5) (hw : w < 1073741824) : ROl g l yX8_waysRead cX8_waysRead 9 (some .long) 4 [(v, .inr (6, [.ref v0, .ref v1, .ref v2, .ref v3, .ref v4, nV k, nV nc, nV nb, nV bi, nV mo])), (v0, cN g 8 sg), (v2, cN g 5 hu), (v3, cN g 5 mi)] [.ref v, nV x, nV y, nV w] (fun r => r = lI ((wy bi mo (sg x) w (hu y) (mi y) (mi y + 1) : Nat) : Int)) := by
  refine ro_startL (by decide +kernel) (Nat.le_of_ble_eq_true rfl) ?_
  intro p e s m args below meth c Q ls C hK hP ret hl
  have C : CT p s m args meth c cX8_waysRead RX8 9 := C
  have hl : lv_has ls 9 [(0, .ref v), (1, nV x), (2, nV y), (3, nV w)] := hl
  refine lv_aload_n C.1 C.2.1 dX8_waysRead_0 rfl (lv_at hl 0 rfl) ?_
  refine lv_iload_n C.1 C.2.1 dX8_waysRead_1 rfl (lv_at hl 2 rfl) ?_
  refine ro_callV (As := [nV y]) (rest := []) C hK (c_X8_milesOf l g v v0 v1 v2 v3 v4 mi k nc nb bi mo y (by first | assumption | omega)) (hP.sub (ws' := [(v, .inr (6, [.ref v0, .ref v1, .ref v2, .ref v3, .ref v4, nV k, nV nc, nV nb, nV bi, nV mo])), (v3, cN g 5 mi)]) [0, 3] rfl) (ci := 6) (q0 := 0) rfl rfl kc_X8_milesOf kl_X8_88 kn_X8 ki_X8_milesOf ke_X8_milesOf nk_X8_milesOf (rm_lt (by decide) (by decide)) hl rfl (Nat.le_of_ble_eq_true rfl) dX8_waysRead_2 (fun r_1 hr_2 => ?_)
  subst hr_2
  have hf_3 := hmi (y)
  refine r_nameN (fun L1 hL1 => ?_)
  refine lv_istore (lv' := [(4, nV L1), (0, .ref v), (1, nV x), (2, nV y), (3, nV w)]) C.1 C.2.1 dX8_waysRead_5 hl (by decide) rfl (fun ls hl => ?_)
  refine lv_aload_n C.1 C.2.1 dX8_waysRead_7 rfl (lv_at hl 1 rfl) ?_
  refine r_get C hK hP kw_X8 (ci := 6) rfl 0 2 (by decide) kf_X8_18 rfl rfl dX8_waysRead_8 ?_
  refine lv_iload_n C.1 C.2.1 dX8_waysRead_11 rfl (lv_at hl 3 rfl) ?_
  refine ro_callSN (As := [.ref v2, nV y]) (rest := []) C hK (c_X9_at l g v2 5 hu y (by first | assumption | omega) (by first | assumption | omega)) (hP.sub (ws' := [(v2, cN g 5 hu)]) [2] rfl) kc_X9_at kx_X8_57 kn_X9 ks_X9_at nk_X9_at (rm_lt (by decide) (by decide)) hl rfl (Nat.le_of_ble_eq_true rfl) dX8_waysRead_12 (fun r_4 hr_5 => ?_)
  subst hr_5
  have hq0 := hhu y
  refine r_nameN (fun q1 hq1 => ?_)
  refine lv_istore (lv' := [(5, nV q1), (4, nV L1), (0, .ref v), (1, nV x), (2, nV y), (3, nV w)]) C.1 C.2.1 dX8_waysRead_15 hl (by decide) rfl (fun ls hl => ?_)
  refine r_lconst 0 C dX8_waysRead_17 rfl ?_
  refine lv_lstore (lv' := [(6, mV 0), (5, nV q1), (4, nV L1), (0, .ref v), (1, nV x), (2, nV y), (3, nV w)]) C.1 C.2.1 dX8_waysRead_18 hl (by decide) rfl (fun ls hl => ?_)
  refine r_iconst 0 C dX8_waysRead_20 rfl ?_
  refine lv_istore (lv' := [(8, nV 0), (6, mV 0), (5, nV q1), (4, nV L1), (0, .ref v), (1, nV x), (2, nV y), (3, nV w)]) C.1 C.2.1 dX8_waysRead_21 hl (by decide) rfl (fun ls hl => ?_)
  have L23 : ∀ (n : Nat) (i : Nat) (t : Nat) (ls : Array Slot) (hi : i ≤ L1 + 1) (ht : t = wy bi mo (sg x) w q1 L1 i) (hm : L1 + 1 - i < n) (hl : lv_has ls 9 [(8, nV i), (6, mV t), (5, nV q1), (4, nV L1), (0, .ref v), (1, nV x), (2, nV y), (3, nV w)]), W p l e (rD 4) s m args below meth c s.heap [] 0 0 Q (F0 m 23 ls []) := by
    intro n
    induction n with
    | zero => intro i t ls hi ht hm hl; exact absurd hm (Nat.not_lt_zero _)
    | succ n ih =>
      intro i t ls hi ht hm hl
      refine lv_iload C.1 C.2.1 dX8_waysRead_23 (lv_at hl 0 rfl) ?_
      refine lv_iload C.1 C.2.1 dX8_waysRead_25 (lv_at hl 3 rfl) ?_
      refine r_cgt 92 C dX8_waysRead_27 rfl ⟨rgN (by omega), rgN (by omega)⟩ (fun h_6 => ?_) (fun h_6 => ?_)
      · skip
        refine lv_lload C.1 C.2.1 dX8_waysRead_92 (lv_at hl 1 rfl) ?_
        exact ret dX8_waysRead_94 (by rw [ht, show i = L1 + 1 by omega, hL1, hq1])
      refine lv_aload_n C.1 C.2.1 dX8_waysRead_30 rfl (lv_at hl 4 rfl) ?_
      refine lv_aload_n C.1 C.2.1 dX8_waysRead_31 rfl (lv_at hl 4 rfl) ?_
      refine lv_iload_n C.1 C.2.1 dX8_waysRead_32 rfl (lv_at hl 5 rfl) ?_
      refine ro_callV (As := [nV x]) (rest := [.ref v]) C hK (c_X8_signOf l g v v0 v1 v2 v3 v4 sg k nc nb bi mo x (by first | assumption | omega)) (hP.sub (ws' := [(v, .inr (6, [.ref v0, .ref v1, .ref v2, .ref v3, .ref v4, nV k, nV nc, nV nb, nV bi, nV mo])), (v0, cN g 8 sg)]) [0, 1] rfl) (ci := 6) (q0 := 0) rfl rfl kc_X8_signOf kl_X8_61 kn_X8 ki_X8_signOf ke_X8_signOf nk_X8_signOf (rm_lt (by decide) (by decide)) hl rfl (Nat.le_of_ble_eq_true rfl) dX8_waysRead_33 (fun r_7 hr_8 => ?_)
      subst hr_8
      have hf_9 := hsg (x)
      refine lv_iload_n C.1 C.2.1 dX8_waysRead_36 rfl (lv_at hl 7 rfl) ?_
      refine lv_iload C.1 C.2.1 dX8_waysRead_37 (lv_at hl 0 rfl) ?_
      refine ro_callV (As := [nV (sg x), nV w, nV i]) (rest := []) C hK (c_X8_turned l g v v0 v1 v2 v3 v4 k nc nb bi mo (sg x) w i (by first | assumption | omega) (by first | assumption | omega) (by first | assumption | omega) (by first | assumption | omega)) (hP.sub (ws' := [(v, .inr (6, [.ref v0, .ref v1, .ref v2, .ref v3, .ref v4, nV k, nV nc, nV nb, nV bi, nV mo]))]) [0] rfl) (ci := 6) (q0 := 0) rfl rfl kc_X8_turned kl_X8_91 kn_X8 ki_X8_turned ke_X8_turned nk_X8_turned (rm_lt (by decide) (by decide)) hl rfl (Nat.le_of_ble_eq_true rfl) dX8_waysRead_39 (fun r_10 hr_11 => ?_)
      subst hr_11
      have hf_12 := tn_bd (bi) (mo) ((sg x)) (w) (i) (by omega)
      refine lv_aload_n C.1 C.2.1 dX8_waysRead_42 rfl (lv_at hl 4 rfl) ?_
      refine lv_iload_n C.1 C.2.1 dX8_waysRead_43 rfl (lv_at hl 5 rfl) ?_
      refine ro_callV (As := [nV x]) (rest := [nV (tn bi mo (sg x) w i)]) C hK (c_X8_signOf l g v v0 v1 v2 v3 v4 sg k nc nb bi mo x (by first | assumption | omega)) (hP.sub (ws' := [(v, .inr (6, [.ref v0, .ref v1, .ref v2, .ref v3, .ref v4, nV k, nV nc, nV nb, nV bi, nV mo])), (v0, cN g 8 sg)]) [0, 1] rfl) (ci := 6) (q0 := 0) rfl rfl kc_X8_signOf kl_X8_61 kn_X8 ki_X8_signOf ke_X8_signOf nk_X8_signOf (rm_lt (by decide) (by decide)) hl rfl (Nat.le_of_ble_eq_true rfl) dX8_waysRead_44 (fun r_13 hr_14 => ?_)
      subst hr_14
      have hf_15 := hsg (x)
      refine r_cne 86 C dX8_waysRead_47 rfl ⟨rgN (by omega), rgN (by omega)⟩ (fun h_16 => ?_) (fun h_16 => ?_)
      · skip
        refine r_incN (k := 0) (n := 1) [(8, nV (i + 1)), (6, mV t), (5, nV q1), (4, nV L1), (0, .ref v), (1, nV x), (2, nV y), (3, nV w)] C dX8_waysRead_86 hl rfl rfl (by decide) rfl (fun ls hl => ?_)
        refine r_goto 23 C dX8_waysRead_89 rfl ?_
        exact ih (i + 1) t _ (by first | assumption | omega) (by rw [ht]; show _ = wy bi mo (sg x) w q1 L1 i + _; first | (rw [if_pos (by omega)]; done) | rw [if_neg (by omega), Nat.add_zero]) (by omega) (lv_sub hl [0, 1, 2, 3, 4, 5, 6, 7] rfl)
      refine lv_lload C.1 C.2.1 dX8_waysRead_50 (lv_at hl 1 rfl) ?_
      refine lv_iload C.1 C.2.1 dX8_waysRead_52 (lv_at hl 3 rfl) ?_
      refine lv_iload C.1 C.2.1 dX8_waysRead_54 (lv_at hl 0 rfl) ?_
      refine ro_callSL (As := [nV L1, nV i]) (rest := [mV t]) C hK (c_X2_choose l g L1 i (by first | assumption | omega) (by first | assumption | omega)) (hP.sub (ws' := []) [] rfl) kc_X2_choose kl_X8_94 kn_X2 ks_X2_choose nk_X2_choose (rm_lt (by decide) (by decide)) hl rfl (Nat.le_of_ble_eq_true rfl) dX8_waysRead_56 (fun r_17 hr_18 => ?_)
      subst hr_18
      refine lv_iload C.1 C.2.1 dX8_waysRead_59 (lv_at hl 2 rfl) ?_
      refine r_i2l C dX8_waysRead_61 (rgN (by omega)) ?_
      refine lv_iload C.1 C.2.1 dX8_waysRead_62 (lv_at hl 0 rfl) ?_
      refine ro_callSL (As := [mV q1, nV i]) (rest := [mV (ch L1 i), mV t]) C hK (c_X2_power l g q1 i (by first | assumption | omega)) (hP.sub (ws' := []) [] rfl) kc_X2_power kl_X8_100 kn_X2 ks_X2_power nk_X2_power (rm_lt (by decide) (by decide)) hl rfl (Nat.le_of_ble_eq_true rfl) dX8_waysRead_64 (fun r_19 hr_20 => ?_)
      subst hr_20
      refine r_lmulN C dX8_waysRead_67 ?_
      refine r_bipush 10 C dX8_waysRead_68 (by decide) ?_
      refine lv_iload C.1 C.2.1 dX8_waysRead_70 (lv_at hl 2 rfl) ?_
      refine r_subN C dX8_waysRead_72 (by omega) ?_
      refine r_i2l C dX8_waysRead_73 (rgN (by omega)) ?_
      refine lv_iload C.1 C.2.1 dX8_waysRead_74 (lv_at hl 3 rfl) ?_
      refine lv_iload C.1 C.2.1 dX8_waysRead_76 (lv_at hl 0 rfl) ?_
      refine r_subN C dX8_waysRead_78 (by omega) ?_
      refine ro_callSL (As := [mV (10 - q1), nV (L1 - i)]) (rest := [mV ((ch L1 i) * (q1 ^ i)), mV t]) C hK (c_X2_power l g (10 - q1) (L1 - i) (by first | assumption | omega)) (hP.sub (ws' := []) [] rfl) kc_X2_power kl_X8_100 kn_X2 ks_X2_power nk_X2_power (rm_lt (by decide) (by decide)) hl rfl (Nat.le_of_ble_eq_true rfl) dX8_waysRead_79 (fun r_21 hr_22 => ?_)
      subst hr_22
      refine r_lmulN C dX8_waysRead_82 ?_
      refine r_laddN C dX8_waysRead_83 ?_
      refine lv_lstore (lv' := [(6, mV (t + (((ch L1 i) * (q1 ^ i)) * ((10 - q1) ^ (L1 - i))))), (8, nV i), (5, nV q1), (4, nV L1), (0, .ref v), (1, nV x), (2, nV y), (3, nV w)]) C.1 C.2.1 dX8_waysRead_84 hl (by decide) rfl (fun ls hl => ?_)
      refine r_incN (k := 1) (n := 1) [(8, nV (i + 1)), (6, mV (t + (((ch L1 i) * (q1 ^ i)) * ((10 - q1) ^ (L1 - i))))), (5, nV q1), (4, nV L1), (0, .ref v), (1, nV x), (2, nV y), (3, nV w)] C dX8_waysRead_86 hl rfl rfl (by decide) rfl (fun ls hl => ?_)
      refine r_goto 23 C dX8_waysRead_89 rfl ?_
      exact ih (i + 1) (t + (((ch L1 i) * (q1 ^ i)) * ((10 - q1) ^ (L1 - i)))) _ (by first | assumption | omega) (by rw [ht]; show _ = wy bi mo (sg x) w q1 L1 i + _; first | (rw [if_pos (by omega)]; done) | rw [if_neg (by omega), Nat.add_zero]) (by omega) (lv_sub hl [0, 1, 2, 3, 4, 5, 6, 7] rfl)
  exact L23 (L1 + 1 - 0 + 1) 0 0 _ (by first | assumption | omega) (rfl) (Nat.lt_succ_self _) (lv_sub hl [0, 1, 2, 3, 4, 5, 6, 7] rfl)
set_option maxHeartbeats 4000000 in
set_option maxRecDepth 100000 in
theorem c_X8_worthOfSet (l : Launch) (g : GG) (v : Nat) (v0 : Nat) (v1 : Nat) (v2 : Nat) (v3 : Nat) (v4 : Nat) (wo : Nat → Nat) (k : Nat) (nc : Nat) (nb : Nat) (bi : Nat) (mo : Nat) (x : Int32) (hk : k ≤ 8) : ROi g l yX8_worthOfSet cX8_worthOfSet 4 (some .int) 3 [(v, .inr (6, [.ref v0, .ref v1, .ref v2, .ref v3, .ref v4, nV k, nV nc, nV nb, nV bi, nV mo])), (v1, cN g 8 wo)] [.ref v, .int x] (fun r => r = wsum wo x k) := by
  refine ro_startI (by decide +kernel) (Nat.le_of_ble_eq_true rfl) ?_
  intro p e s m args below meth c Q ls C hK hP ret hl
  have C : CT p s m args meth c cX8_worthOfSet RX8 4 := C
  have hl : lv_has ls 4 [(0, .ref v), (1, .int x)] := hl
  refine r_iconst 0 C dX8_worthOfSet_0 rfl ?_
  refine lv_istore_n (lv' := [(2, nV 0), (0, .ref v), (1, .int x)]) C.1 C.2.1 dX8_worthOfSet_1 rfl hl (by decide) rfl (fun ls hl => ?_)
  refine r_iconst 0 C dX8_worthOfSet_2 rfl ?_
  refine lv_istore_n (lv' := [(3, nV 0), (2, nV 0), (0, .ref v), (1, .int x)]) C.1 C.2.1 dX8_worthOfSet_3 rfl hl (by decide) rfl (fun ls hl => ?_)
  have L4 : ∀ (n : Nat) (i : Nat) (t : Int32) (ls : Array Slot) (hi : i ≤ k) (ht : t = wsum wo x i) (hm : k - i < n) (hl : lv_has ls 4 [(3, nV i), (2, .int t), (0, .ref v), (1, .int x)]), W p l e (rD 3) s m args below meth c s.heap [] 0 0 Q (F0 m 4 ls []) := by
    intro n
    induction n with
    | zero => intro i t ls hi ht hm hl; exact absurd hm (Nat.not_lt_zero _)
    | succ n ih =>
      intro i t ls hi ht hm hl
      refine lv_iload_n C.1 C.2.1 dX8_worthOfSet_4 rfl (lv_at hl 0 rfl) ?_
      refine lv_aload_n C.1 C.2.1 dX8_worthOfSet_5 rfl (lv_at hl 2 rfl) ?_
      refine r_get C hK hP kw_X8 (ci := 6) rfl 0 5 (by decide) kf_X8_34 rfl rfl dX8_worthOfSet_6 ?_
      refine r_cge 32 C dX8_worthOfSet_9 rfl ⟨rgN (by omega), rgN (by omega)⟩ (fun h_1 => ?_) (fun h_1 => ?_)
      · skip
        refine lv_iload_n C.1 C.2.1 dX8_worthOfSet_32 rfl (lv_at hl 1 rfl) ?_
        exact ret dX8_worthOfSet_33 (by rw [ht, show i = k by omega])
      refine lv_iload_n C.1 C.2.1 dX8_worthOfSet_12 rfl (lv_at hl 1 rfl) ?_
      refine lv_iload_n C.1 C.2.1 dX8_worthOfSet_13 rfl (lv_at hl 3 rfl) ?_
      refine lv_iload_n C.1 C.2.1 dX8_worthOfSet_14 rfl (lv_at hl 0 rfl) ?_
      refine lv_ishr C.1 C.2.1 dX8_worthOfSet_15 ?_
      refine r_iconst 1 C dX8_worthOfSet_16 rfl ?_
      refine lv_iand C.1 C.2.1 dX8_worthOfSet_17 ?_
      refine lv_aload_n C.1 C.2.1 dX8_worthOfSet_18 rfl (lv_at hl 2 rfl) ?_
      refine lv_iload_n C.1 C.2.1 dX8_worthOfSet_19 rfl (lv_at hl 0 rfl) ?_
      refine ro_callV (As := [nV i]) (rest := [.int ((x >>> ((iI ((i : Nat) : Int)) &&& 31)) &&& (iI ((1 : Nat) : Int))), .int t]) C hK (c_X8_worthOf l g v v0 v1 v2 v3 v4 wo k nc nb bi mo i (by first | assumption | omega)) hP (ci := 6) (q0 := 0) rfl rfl kc_X8_worthOf kl_X8_104 kn_X8 ki_X8_worthOf ke_X8_worthOf nk_X8_worthOf (rm_lt (by decide) (by decide)) hl rfl (Nat.le_of_ble_eq_true rfl) dX8_worthOfSet_20 (fun r_2 hr_3 => ?_)
      subst hr_3
      refine lv_imul C.1 C.2.1 dX8_worthOfSet_23 ?_
      refine lv_iadd C.1 C.2.1 dX8_worthOfSet_24 ?_
      refine lv_istore_n (lv' := [(2, .int (t + (((x >>> ((iI ((i : Nat) : Int)) &&& 31)) &&& (iI ((1 : Nat) : Int))) * (iI ((wo i : Nat) : Int))))), (3, nV i), (0, .ref v), (1, .int x)]) C.1 C.2.1 dX8_worthOfSet_25 rfl hl (by decide) rfl (fun ls hl => ?_)
      refine r_incN (k := 1) (n := 1) [(3, nV (i + 1)), (2, .int (t + (((x >>> ((iI ((i : Nat) : Int)) &&& 31)) &&& (iI ((1 : Nat) : Int))) * (iI ((wo i : Nat) : Int))))), (0, .ref v), (1, .int x)] C dX8_worthOfSet_26 hl rfl rfl (by decide) rfl (fun ls hl => ?_)
      refine r_goto 4 C dX8_worthOfSet_29 rfl ?_
      exact ih (i + 1) (t + (((x >>> ((iI ((i : Nat) : Int)) &&& 31)) &&& (iI ((1 : Nat) : Int))) * (iI ((wo i : Nat) : Int)))) _ (by first | assumption | omega) (by rw [ht]; rfl) (by omega) (lv_sub hl [0, 1, 2, 3] rfl)
  exact L4 (k - 0 + 1) 0 (iI ((0 : Nat) : Int)) _ (by first | assumption | omega) (rfl) (Nat.lt_succ_self _) (lv_sub hl [0, 1, 2, 3] rfl)
set_option maxHeartbeats 4000000 in
set_option maxRecDepth 100000 in
theorem c_X8_flourOfSet (l : Launch) (g : GG) (v : Nat) (v0 : Nat) (v1 : Nat) (v2 : Nat) (v3 : Nat) (v4 : Nat) (sg : Nat → Nat) (k : Nat) (nc : Nat) (nb : Nat) (bi : Nat) (mo : Nat) (x : Int32) (hk : k ≤ 8) (hsg : ∀ j, sg j < 72) : ROi g l yX8_flourOfSet cX8_flourOfSet 4 (some .int) 3 [(v, .inr (6, [.ref v0, .ref v1, .ref v2, .ref v3, .ref v4, nV k, nV nc, nV nb, nV bi, nV mo])), (v0, cN g 8 sg)] [.ref v, .int x] (fun r => r = wsum (fun j => fl (sg j)) x k) := by
  refine ro_startI (by decide +kernel) (Nat.le_of_ble_eq_true rfl) ?_
  intro p e s m args below meth c Q ls C hK hP ret hl
  have C : CT p s m args meth c cX8_flourOfSet RX8 4 := C
  have hl : lv_has ls 4 [(0, .ref v), (1, .int x)] := hl
  refine r_iconst 0 C dX8_flourOfSet_0 rfl ?_
  refine lv_istore_n (lv' := [(2, nV 0), (0, .ref v), (1, .int x)]) C.1 C.2.1 dX8_flourOfSet_1 rfl hl (by decide) rfl (fun ls hl => ?_)
  refine r_iconst 0 C dX8_flourOfSet_2 rfl ?_
  refine lv_istore_n (lv' := [(3, nV 0), (2, nV 0), (0, .ref v), (1, .int x)]) C.1 C.2.1 dX8_flourOfSet_3 rfl hl (by decide) rfl (fun ls hl => ?_)
  have L4 : ∀ (n : Nat) (i : Nat) (t : Int32) (ls : Array Slot) (hi : i ≤ k) (ht : t = wsum (fun j => fl (sg j)) x i) (hm : k - i < n) (hl : lv_has ls 4 [(3, nV i), (2, .int t), (0, .ref v), (1, .int x)]), W p l e (rD 3) s m args below meth c s.heap [] 0 0 Q (F0 m 4 ls []) := by
    intro n
    induction n with
    | zero => intro i t ls hi ht hm hl; exact absurd hm (Nat.not_lt_zero _)
    | succ n ih =>
      intro i t ls hi ht hm hl
      refine lv_iload_n C.1 C.2.1 dX8_flourOfSet_4 rfl (lv_at hl 0 rfl) ?_
      refine lv_aload_n C.1 C.2.1 dX8_flourOfSet_5 rfl (lv_at hl 2 rfl) ?_
      refine r_get C hK hP kw_X8 (ci := 6) rfl 0 5 (by decide) kf_X8_34 rfl rfl dX8_flourOfSet_6 ?_
      refine r_cge 35 C dX8_flourOfSet_9 rfl ⟨rgN (by omega), rgN (by omega)⟩ (fun h_1 => ?_) (fun h_1 => ?_)
      · skip
        refine lv_iload_n C.1 C.2.1 dX8_flourOfSet_35 rfl (lv_at hl 1 rfl) ?_
        exact ret dX8_flourOfSet_36 (by rw [ht, show i = k by omega])
      refine lv_iload_n C.1 C.2.1 dX8_flourOfSet_12 rfl (lv_at hl 1 rfl) ?_
      refine lv_iload_n C.1 C.2.1 dX8_flourOfSet_13 rfl (lv_at hl 3 rfl) ?_
      refine lv_iload_n C.1 C.2.1 dX8_flourOfSet_14 rfl (lv_at hl 0 rfl) ?_
      refine lv_ishr C.1 C.2.1 dX8_flourOfSet_15 ?_
      refine r_iconst 1 C dX8_flourOfSet_16 rfl ?_
      refine lv_iand C.1 C.2.1 dX8_flourOfSet_17 ?_
      refine lv_aload_n C.1 C.2.1 dX8_flourOfSet_18 rfl (lv_at hl 2 rfl) ?_
      refine lv_iload_n C.1 C.2.1 dX8_flourOfSet_19 rfl (lv_at hl 0 rfl) ?_
      refine ro_callV (As := [nV i]) (rest := [.int ((x >>> ((iI ((i : Nat) : Int)) &&& 31)) &&& (iI ((1 : Nat) : Int))), .int t]) C hK (c_X8_signOf l g v v0 v1 v2 v3 v4 sg k nc nb bi mo i (by first | assumption | omega)) hP (ci := 6) (q0 := 0) rfl rfl kc_X8_signOf kl_X8_61 kn_X8 ki_X8_signOf ke_X8_signOf nk_X8_signOf (rm_lt (by decide) (by decide)) hl rfl (Nat.le_of_ble_eq_true rfl) dX8_flourOfSet_20 (fun r_2 hr_3 => ?_)
      subst hr_3
      have hf_4 := hsg (i)
      refine ro_callS (As := [nV (sg i)]) (rest := [.int ((x >>> ((iI ((i : Nat) : Int)) &&& 31)) &&& (iI ((1 : Nat) : Int))), .int t]) C hK (c_X6_flour l g (sg i) (by first | assumption | omega)) (hP.sub (ws' := []) [] rfl) kc_X6_flour kl_X8_107 kn_X6 ks_X6_flour nk_X6_flour (rm_lt (by decide) (by decide)) hl rfl (Nat.le_of_ble_eq_true rfl) dX8_flourOfSet_23 (fun r_5 hr_6 => ?_)
      subst hr_6
      refine lv_imul C.1 C.2.1 dX8_flourOfSet_26 ?_
      refine lv_iadd C.1 C.2.1 dX8_flourOfSet_27 ?_
      refine lv_istore_n (lv' := [(2, .int (t + (((x >>> ((iI ((i : Nat) : Int)) &&& 31)) &&& (iI ((1 : Nat) : Int))) * (iI ((fl (sg i) : Nat) : Int))))), (3, nV i), (0, .ref v), (1, .int x)]) C.1 C.2.1 dX8_flourOfSet_28 rfl hl (by decide) rfl (fun ls hl => ?_)
      refine r_incN (k := 1) (n := 1) [(3, nV (i + 1)), (2, .int (t + (((x >>> ((iI ((i : Nat) : Int)) &&& 31)) &&& (iI ((1 : Nat) : Int))) * (iI ((fl (sg i) : Nat) : Int))))), (0, .ref v), (1, .int x)] C dX8_flourOfSet_29 hl rfl rfl (by decide) rfl (fun ls hl => ?_)
      refine r_goto 4 C dX8_flourOfSet_32 rfl ?_
      exact ih (i + 1) (t + (((x >>> ((iI ((i : Nat) : Int)) &&& 31)) &&& (iI ((1 : Nat) : Int))) * (iI ((fl (sg i) : Nat) : Int)))) _ (by first | assumption | omega) (by rw [ht]; rfl) (by omega) (lv_sub hl [0, 1, 2, 3] rfl)
  exact L4 (k - 0 + 1) 0 (iI ((0 : Nat) : Int)) _ (by first | assumption | omega) (rfl) (Nat.lt_succ_self _) (lv_sub hl [0, 1, 2, 3] rfl)
set_option maxHeartbeats 4000000 in
set_option maxRecDepth 100000 in
theorem c_X8_bakersKnowing (l : Launch) (g : GG) (v : Nat) (v0 : Nat) (v1 : Nat) (v2 : Nat) (v3 : Nat) (v4 : Nat) (kn : Nat → Nat) (k : Nat) (nc : Nat) (nb : Nat) (bi : Nat) (mo : Nat) (x : Int32) (hnb : nb ≤ 5) : ROi g l yX8_bakersKnowing cX8_bakersKnowing 4 (some .int) 2 [(v, .inr (6, [.ref v0, .ref v1, .ref v2, .ref v3, .ref v4, nV k, nV nc, nV nb, nV bi, nV mo])), (v4, cN g 5 kn)] [.ref v, .int x] (fun r => r = bset (fun j => decide (iI ((kn j : Nat) : Int) &&& x = x)) nb) := by
  refine ro_startI (by decide +kernel) (Nat.le_of_ble_eq_true rfl) ?_
  intro p e s m args below meth c Q ls C hK hP ret hl
  have C : CT p s m args meth c cX8_bakersKnowing RX8 4 := C
  have hl : lv_has ls 4 [(0, .ref v), (1, .int x)] := hl
  refine r_iconst 0 C dX8_bakersKnowing_0 rfl ?_
  refine lv_istore_n (lv' := [(2, nV 0), (0, .ref v), (1, .int x)]) C.1 C.2.1 dX8_bakersKnowing_1 rfl hl (by decide) rfl (fun ls hl => ?_)
  refine r_iconst 0 C dX8_bakersKnowing_2 rfl ?_
  refine lv_istore_n (lv' := [(3, nV 0), (2, nV 0), (0, .ref v), (1, .int x)]) C.1 C.2.1 dX8_bakersKnowing_3 rfl hl (by decide) rfl (fun ls hl => ?_)
  have L4 : ∀ (n : Nat) (i : Nat) (t : Int32) (ls : Array Slot) (hi : i ≤ nb) (ht : t = bset (fun j => decide (iI ((kn j : Nat) : Int) &&& x = x)) i) (hm : nb - i < n) (hl : lv_has ls 4 [(3, nV i), (2, .int t), (0, .ref v), (1, .int x)]), W p l e (rD 2) s m args below meth c s.heap [] 0 0 Q (F0 m 4 ls []) := by
    intro n
    induction n with
    | zero => intro i t ls hi ht hm hl; exact absurd hm (Nat.not_lt_zero _)
    | succ n ih =>
      intro i t ls hi ht hm hl
      refine lv_iload_n C.1 C.2.1 dX8_bakersKnowing_4 rfl (lv_at hl 0 rfl) ?_
      refine lv_aload_n C.1 C.2.1 dX8_bakersKnowing_5 rfl (lv_at hl 2 rfl) ?_
      refine r_get C hK hP kw_X8 (ci := 6) rfl 0 7 (by decide) kf_X8_40 rfl rfl dX8_bakersKnowing_6 ?_
      refine r_cge 38 C dX8_bakersKnowing_9 rfl ⟨rgN (by omega), rgN (by omega)⟩ (fun h_1 => ?_) (fun h_1 => ?_)
      · skip
        refine lv_iload_n C.1 C.2.1 dX8_bakersKnowing_38 rfl (lv_at hl 1 rfl) ?_
        exact ret dX8_bakersKnowing_39 (by rw [ht, show i = nb by omega])
      refine lv_aload_n C.1 C.2.1 dX8_bakersKnowing_12 rfl (lv_at hl 2 rfl) ?_
      refine r_get C hK hP kw_X8 (ci := 6) rfl 0 4 (by decide) kf_X8_24 rfl rfl dX8_bakersKnowing_13 ?_
      refine lv_iload_n C.1 C.2.1 dX8_bakersKnowing_16 rfl (lv_at hl 0 rfl) ?_
      refine ro_callSN (As := [.ref v4, nV i]) (rest := []) C hK (c_X9_at l g v4 5 kn i (by first | assumption | omega) (by first | assumption | omega)) (hP.sub (ws' := [(v4, cN g 5 kn)]) [1] rfl) kc_X9_at kx_X8_57 kn_X9 ks_X9_at nk_X9_at (rm_lt (by decide) (by decide)) hl rfl (Nat.le_of_ble_eq_true rfl) dX8_bakersKnowing_17 (fun r_2 hr_3 => ?_)
      subst hr_3
      refine lv_iload_n C.1 C.2.1 dX8_bakersKnowing_20 rfl (lv_at hl 3 rfl) ?_
      refine lv_iand C.1 C.2.1 dX8_bakersKnowing_21 ?_
      refine lv_iload_n C.1 C.2.1 dX8_bakersKnowing_22 rfl (lv_at hl 3 rfl) ?_
      refine lv_icmp_ne (tgt := 32) C.1 C.2.1 dX8_bakersKnowing_23 rfl (fun hc => ?_) (fun hc => ?_)
      · skip
        refine r_incN (k := 0) (n := 1) [(3, nV (i + 1)), (2, .int t), (0, .ref v), (1, .int x)] C dX8_bakersKnowing_32 hl rfl rfl (by decide) rfl (fun ls hl => ?_)
        refine r_goto 4 C dX8_bakersKnowing_35 rfl ?_
        exact ih (i + 1) t _ (by first | assumption | omega) (by rw [ht]; show _ = (if decide (iI ((kn i : Nat) : Int) &&& x = x) = true then _ else _); first | (rw [if_pos (decide_eq_true hc)]; done) | rw [if_neg (by simpa using hc)]) (by omega) (lv_sub hl [0, 1, 2, 3] rfl)
      refine lv_iload_n C.1 C.2.1 dX8_bakersKnowing_26 rfl (lv_at hl 1 rfl) ?_
      refine r_iconst 1 C dX8_bakersKnowing_27 rfl ?_
      refine lv_iload_n C.1 C.2.1 dX8_bakersKnowing_28 rfl (lv_at hl 0 rfl) ?_
      refine lv_ishl C.1 C.2.1 dX8_bakersKnowing_29 ?_
      refine lv_ior C.1 C.2.1 dX8_bakersKnowing_30 ?_
      refine lv_istore_n (lv' := [(2, .int (t ||| ((iI ((1 : Nat) : Int)) <<< ((iI ((i : Nat) : Int)) &&& 31)))), (3, nV i), (0, .ref v), (1, .int x)]) C.1 C.2.1 dX8_bakersKnowing_31 rfl hl (by decide) rfl (fun ls hl => ?_)
      refine r_incN (k := 1) (n := 1) [(3, nV (i + 1)), (2, .int (t ||| ((iI ((1 : Nat) : Int)) <<< ((iI ((i : Nat) : Int)) &&& 31)))), (0, .ref v), (1, .int x)] C dX8_bakersKnowing_32 hl rfl rfl (by decide) rfl (fun ls hl => ?_)
      refine r_goto 4 C dX8_bakersKnowing_35 rfl ?_
      exact ih (i + 1) (t ||| ((iI ((1 : Nat) : Int)) <<< ((iI ((i : Nat) : Int)) &&& 31))) _ (by first | assumption | omega) (by rw [ht]; show _ = (if decide (iI ((kn i : Nat) : Int) &&& x = x) = true then _ else _); first | (rw [if_pos (decide_eq_true hc)]; done) | rw [if_neg (by simpa using hc)]) (by omega) (lv_sub hl [0, 1, 2, 3] rfl)
  exact L4 (nb - 0 + 1) 0 (iI ((0 : Nat) : Int)) _ (by first | assumption | omega) (rfl) (Nat.lt_succ_self _) (lv_sub hl [0, 1, 2, 3] rfl)
set_option maxHeartbeats 4000000 in
set_option maxRecDepth 100000 in
theorem c_X8_clear (l : Launch) (g : GG) (v : Nat) (v0 : Nat) (v1 : Nat) (v2 : Nat) (v3 : Nat) (v4 : Nat) (k : Nat) (nc : Nat) (nb : Nat) (bi : Nat) (mo : Nat)  : WRv g l yX8_clear cX8_clear 1 1 [(v, .inr (6, [.ref v0, .ref v1, .ref v2, .ref v3, .ref v4, nV k, nV nc, nV nb, nV bi, nV mo]))] [.ref v] (fun (_ : Unit) => True) (fun (_ : Unit) => [(v, .inr (6, [.ref v0, .ref v1, .ref v2, .ref v3, .ref v4, nV 0, nV 0, nV 0, nV 2, nV 3]))]) := by
  refine wr_startV (by decide +kernel) (Nat.le_of_ble_eq_true rfl) ?_
  intro p e s m args below meth c Q A ls C hK hA ret hP hD hS hl
  have C : CT p s m args meth c cX8_clear RX8 1 := C
  have hl : lv_has ls 1 [(0, .ref v)] := hl
  refine lv_aload_n C.1 C.2.1 dX8_clear_0 rfl (lv_at hl 0 rfl) ?_
  refine r_iconst 0 C dX8_clear_1 rfl ?_
  refine r_put (v := nV 0) C hK hP hD hS kw_X8 tyX8_ok nmX8 (ci := 6) rfl 0 5 (by decide) kf_X8_34 rfl rfl rfl rfl rfl (Nat.le_of_ble_eq_true rfl) dX8_clear_2 (fun H locs hP hD hS => ?_)
  have hP : va_P g.1 vwCl [(v, .inr (6, [.ref v0, .ref v1, .ref v2, .ref v3, .ref v4, nV 0, nV nc, nV nb, nV bi, nV mo]))] H := hP
  have hD : va_D A [(v, .inr (6, [.ref v0, .ref v1, .ref v2, .ref v3, .ref v4, nV 0, nV nc, nV nb, nV bi, nV mo]))] := hD
  refine lv_aload_n C.1 C.2.1 dX8_clear_5 rfl (lv_at hl 0 rfl) ?_
  refine r_iconst 0 C dX8_clear_6 rfl ?_
  refine r_put (v := nV 0) C hK hP hD hS kw_X8 tyX8_ok nmX8 (ci := 6) rfl 0 6 (by decide) kf_X8_37 rfl rfl rfl rfl rfl (Nat.le_of_ble_eq_true rfl) dX8_clear_7 (fun H locs hP hD hS => ?_)
  have hP : va_P g.1 vwCl [(v, .inr (6, [.ref v0, .ref v1, .ref v2, .ref v3, .ref v4, nV 0, nV 0, nV nb, nV bi, nV mo]))] H := hP
  have hD : va_D A [(v, .inr (6, [.ref v0, .ref v1, .ref v2, .ref v3, .ref v4, nV 0, nV 0, nV nb, nV bi, nV mo]))] := hD
  refine lv_aload_n C.1 C.2.1 dX8_clear_10 rfl (lv_at hl 0 rfl) ?_
  refine r_iconst 0 C dX8_clear_11 rfl ?_
  refine r_put (v := nV 0) C hK hP hD hS kw_X8 tyX8_ok nmX8 (ci := 6) rfl 0 7 (by decide) kf_X8_40 rfl rfl rfl rfl rfl (Nat.le_of_ble_eq_true rfl) dX8_clear_12 (fun H locs hP hD hS => ?_)
  have hP : va_P g.1 vwCl [(v, .inr (6, [.ref v0, .ref v1, .ref v2, .ref v3, .ref v4, nV 0, nV 0, nV 0, nV bi, nV mo]))] H := hP
  have hD : va_D A [(v, .inr (6, [.ref v0, .ref v1, .ref v2, .ref v3, .ref v4, nV 0, nV 0, nV 0, nV bi, nV mo]))] := hD
  refine lv_aload_n C.1 C.2.1 dX8_clear_15 rfl (lv_at hl 0 rfl) ?_
  refine r_iconst 2 C dX8_clear_16 rfl ?_
  refine r_put (v := nV 2) C hK hP hD hS kw_X8 tyX8_ok nmX8 (ci := 6) rfl 0 8 (by decide) kf_X8_27 rfl rfl rfl rfl rfl (Nat.le_of_ble_eq_true rfl) dX8_clear_17 (fun H locs hP hD hS => ?_)
  have hP : va_P g.1 vwCl [(v, .inr (6, [.ref v0, .ref v1, .ref v2, .ref v3, .ref v4, nV 0, nV 0, nV 0, nV 2, nV mo]))] H := hP
  have hD : va_D A [(v, .inr (6, [.ref v0, .ref v1, .ref v2, .ref v3, .ref v4, nV 0, nV 0, nV 0, nV 2, nV mo]))] := hD
  refine lv_aload_n C.1 C.2.1 dX8_clear_20 rfl (lv_at hl 0 rfl) ?_
  refine r_iconst 3 C dX8_clear_21 rfl ?_
  refine r_put (v := nV 3) C hK hP hD hS kw_X8 tyX8_ok nmX8 (ci := 6) rfl 0 9 (by decide) kf_X8_31 rfl rfl rfl rfl rfl (Nat.le_of_ble_eq_true rfl) dX8_clear_22 (fun H locs hP hD hS => ?_)
  have hP : va_P g.1 vwCl [(v, .inr (6, [.ref v0, .ref v1, .ref v2, .ref v3, .ref v4, nV 0, nV 0, nV 0, nV 2, nV 3]))] H := hP
  have hD : va_D A [(v, .inr (6, [.ref v0, .ref v1, .ref v2, .ref v3, .ref v4, nV 0, nV 0, nV 0, nV 2, nV 3]))] := hD
  exact ret (()) dX8_clear_25 hS hP (trivial)
set_option maxHeartbeats 4000000 in
set_option maxRecDepth 100000 in
theorem c_X8_addWord (l : Launch) (g : GG) (v : Nat) (v0 : Nat) (v1 : Nat) (v2 : Nat) (v3 : Nat) (v4 : Nat) (sg : Nat → Nat) (wo : Nat → Nat) (k : Nat) (nc : Nat) (nb : Nat) (bi : Nat) (mo : Nat) (x : Nat) (y : Nat) (w : Nat) (z : Nat) (hk : k ≤ 8) (hsg : ∀ j, sg j < 72) (hx : x < 100) (hy : y < 100) (hw : w < 100) (hz : z < 100) : WRi g l yX8_addWord cX8_addWord 6 (some .boolean) 4 [(v, .inr (6, [.ref v0, .ref v1, .ref v2, .ref v3, .ref v4, nV k, nV nc, nV nb, nV bi, nV mo])), (v0, cN g 8 sg), (v1, cN g 8 wo)] [.ref v, nV x, nV y, nV w, nV z] (fun r (_ : Unit) => r = bI (aw sg k x y w = true)) (fun (_ : Unit) => [(v, .inr (6, [.ref v0, .ref v1, .ref v2, .ref v3, .ref v4, nV (if aw sg k x y w = true then k + 1 else k), nV nc, nV nb, nV bi, nV mo])), (v0, cN g 8 (if aw sg k x y w = true then upN sg k (x + 6 * y + 24 * w) else sg)), (v1, cN g 8 (if aw sg k x y w = true then upN wo k z else wo))]) := by
  refine wr_startZ (by decide +kernel) (Nat.le_of_ble_eq_true rfl) ?_
  intro p e s m args below meth c Q A ls C hK hA ret hP hD hS hl
  have C : CT p s m args meth c cX8_addWord RX8 6 := C
  have hl : lv_has ls 6 [(0, .ref v), (1, nV x), (2, nV y), (3, nV w), (4, nV z)] := hl
  refine lv_iload_n C.1 C.2.1 dX8_addWord_0 rfl (lv_at hl 1 rfl) ?_
  refine r_iconst 0 C dX8_addWord_1 rfl ?_
  refine r_iconst 5 C dX8_addWord_2 rfl ?_
  refine ro_callSN (As := [nV x, nV 0, nV 5]) (rest := []) C hK (c_X9_within l g ((x : Nat) : Int) ((0 : Nat) : Int) ((5 : Nat) : Int) (by first | assumption | exact ⟨by omega, by omega⟩) (by first | assumption | exact ⟨by omega, by omega⟩) (by first | assumption | exact ⟨by omega, by omega⟩)) (hP.sub (ws' := []) [] rfl) kc_X9_within kx_X8_43 kn_X9 ks_X9_within nk_X9_within (rm_lt (by decide) (by decide)) hl rfl (Nat.le_of_ble_eq_true rfl) dX8_addWord_3 (fun r_1 hr_2 => ?_)
  subst hr_2
  refine r_beq 27 C dX8_addWord_6 rfl (fun h_3 => ?_) (fun h_3 => ?_)
  · skip
    refine r_iconst 0 C dX8_addWord_27 rfl ?_
    exact ret (()) dX8_addWord_28 (by decide) hS (by have hf : aw sg k x y w = false := decide_eq_false (by omega); rw [if_neg (by rw [hf]; decide), if_neg (by rw [hf]; decide), if_neg (by rw [hf]; decide)]; exact hP) (bI_z (by have hf : aw sg k x y w = false := decide_eq_false (by omega); rw [hf]; decide))
  refine lv_iload_n C.1 C.2.1 dX8_addWord_9 rfl (lv_at hl 2 rfl) ?_
  refine r_iconst 0 C dX8_addWord_10 rfl ?_
  refine r_iconst 3 C dX8_addWord_11 rfl ?_
  refine ro_callSN (As := [nV y, nV 0, nV 3]) (rest := []) C hK (c_X9_within l g ((y : Nat) : Int) ((0 : Nat) : Int) ((3 : Nat) : Int) (by first | assumption | exact ⟨by omega, by omega⟩) (by first | assumption | exact ⟨by omega, by omega⟩) (by first | assumption | exact ⟨by omega, by omega⟩)) (hP.sub (ws' := []) [] rfl) kc_X9_within kx_X8_43 kn_X9 ks_X9_within nk_X9_within (rm_lt (by decide) (by decide)) hl rfl (Nat.le_of_ble_eq_true rfl) dX8_addWord_12 (fun r_4 hr_5 => ?_)
  subst hr_5
  refine r_beq 27 C dX8_addWord_15 rfl (fun h_6 => ?_) (fun h_6 => ?_)
  · skip
    refine r_iconst 0 C dX8_addWord_27 rfl ?_
    exact ret (()) dX8_addWord_28 (by decide) hS (by have hf : aw sg k x y w = false := decide_eq_false (by omega); rw [if_neg (by rw [hf]; decide), if_neg (by rw [hf]; decide), if_neg (by rw [hf]; decide)]; exact hP) (bI_z (by have hf : aw sg k x y w = false := decide_eq_false (by omega); rw [hf]; decide))
  refine lv_iload_n C.1 C.2.1 dX8_addWord_18 rfl (lv_at hl 3 rfl) ?_
  refine r_iconst 0 C dX8_addWord_19 rfl ?_
  refine r_iconst 2 C dX8_addWord_20 rfl ?_
  refine ro_callSN (As := [nV w, nV 0, nV 2]) (rest := []) C hK (c_X9_within l g ((w : Nat) : Int) ((0 : Nat) : Int) ((2 : Nat) : Int) (by first | assumption | exact ⟨by omega, by omega⟩) (by first | assumption | exact ⟨by omega, by omega⟩) (by first | assumption | exact ⟨by omega, by omega⟩)) (hP.sub (ws' := []) [] rfl) kc_X9_within kx_X8_43 kn_X9 ks_X9_within nk_X9_within (rm_lt (by decide) (by decide)) hl rfl (Nat.le_of_ble_eq_true rfl) dX8_addWord_21 (fun r_7 hr_8 => ?_)
  subst hr_8
  refine r_bne 29 C dX8_addWord_24 rfl (fun h_9 => ?_) (fun h_9 => ?_)
  · skip
    refine lv_iload_n C.1 C.2.1 dX8_addWord_29 rfl (lv_at hl 1 rfl) ?_
    refine lv_iload_n C.1 C.2.1 dX8_addWord_30 rfl (lv_at hl 2 rfl) ?_
    refine lv_iload_n C.1 C.2.1 dX8_addWord_31 rfl (lv_at hl 3 rfl) ?_
    refine ro_callS (As := [nV x, nV y, nV w]) (rest := []) C hK (c_X6_of l g x y w) (hP.sub (ws' := []) [] rfl) kc_X6_of kl_X8_47 kn_X6 ks_X6_of nk_X6_of (rm_lt (by decide) (by decide)) hl rfl (Nat.le_of_ble_eq_true rfl) dX8_addWord_32 (fun r_10 hr_11 => ?_)
    subst hr_11
    refine lv_istore (lv' := [(5, nV (x + 6 * y + 24 * w)), (0, .ref v), (1, nV x), (2, nV y), (3, nV w), (4, nV z)]) C.1 C.2.1 dX8_addWord_35 hl (by decide) rfl (fun ls hl => ?_)
    refine lv_iload C.1 C.2.1 dX8_addWord_37 (lv_at hl 5 rfl) ?_
    refine r_iconst 0 C dX8_addWord_39 rfl ?_
    refine r_bipush 99 C dX8_addWord_40 (by decide) ?_
    refine ro_callSN (As := [nV z, nV 0, nV 99]) (rest := []) C hK (c_X9_within l g ((z : Nat) : Int) ((0 : Nat) : Int) ((99 : Nat) : Int) (by first | assumption | exact ⟨by omega, by omega⟩) (by first | assumption | exact ⟨by omega, by omega⟩) (by first | assumption | exact ⟨by omega, by omega⟩)) (hP.sub (ws' := []) [] rfl) kc_X9_within kx_X8_43 kn_X9 ks_X9_within nk_X9_within (rm_lt (by decide) (by decide)) hl rfl (Nat.le_of_ble_eq_true rfl) dX8_addWord_42 (fun r_12 hr_13 => ?_)
    subst hr_13
    refine r_beq 72 C dX8_addWord_45 rfl (fun h_14 => ?_) (fun h_14 => ?_)
    · exact absurd h_14 (by omega)
    refine lv_aload_n C.1 C.2.1 dX8_addWord_48 rfl (lv_at hl 1 rfl) ?_
    refine r_get C hK hP kw_X8 (ci := 6) rfl 0 5 (by decide) kf_X8_34 rfl rfl dX8_addWord_49 ?_
    refine r_iconst 0 C dX8_addWord_52 rfl ?_
    refine r_bipush 7 C dX8_addWord_53 (by decide) ?_
    refine ro_callSN (As := [nV k, nV 0, nV 7]) (rest := []) C hK (c_X9_within l g ((k : Nat) : Int) ((0 : Nat) : Int) ((7 : Nat) : Int) (by first | assumption | exact ⟨by omega, by omega⟩) (by first | assumption | exact ⟨by omega, by omega⟩) (by first | assumption | exact ⟨by omega, by omega⟩)) (hP.sub (ws' := []) [] rfl) kc_X9_within kx_X8_43 kn_X9 ks_X9_within nk_X9_within (rm_lt (by decide) (by decide)) hl rfl (Nat.le_of_ble_eq_true rfl) dX8_addWord_55 (fun r_15 hr_16 => ?_)
    subst hr_16
    refine r_beq 72 C dX8_addWord_58 rfl (fun h_17 => ?_) (fun h_17 => ?_)
    · skip
      refine r_iconst 0 C dX8_addWord_72 rfl ?_
      exact ret (()) dX8_addWord_73 (by decide) hS (by have hf : aw sg k x y w = false := decide_eq_false (by omega); rw [if_neg (by rw [hf]; decide), if_neg (by rw [hf]; decide), if_neg (by rw [hf]; decide)]; exact hP) (bI_z (by have hf : aw sg k x y w = false := decide_eq_false (by omega); rw [hf]; decide))
    refine lv_aload_n C.1 C.2.1 dX8_addWord_61 rfl (lv_at hl 1 rfl) ?_
    refine lv_iload C.1 C.2.1 dX8_addWord_62 (lv_at hl 0 rfl) ?_
    refine ro_callV (As := [nV (x + 6 * y + 24 * w)]) (rest := []) C hK (c_X8_readAs l g v v0 v1 v2 v3 v4 sg k nc nb bi mo (x + 6 * y + 24 * w) (by first | assumption | omega) (by first | assumption | omega) (by first | assumption | omega)) (hP.sub (ws' := [(v, .inr (6, [.ref v0, .ref v1, .ref v2, .ref v3, .ref v4, nV k, nV nc, nV nb, nV bi, nV mo])), (v0, cN g 8 sg)]) [0, 1] rfl) (ci := 6) (q0 := 0) rfl rfl kc_X8_readAs kl_X8_53 kn_X8 ki_X8_readAs ke_X8_readAs nk_X8_readAs (rm_lt (by decide) (by decide)) hl rfl (Nat.le_of_ble_eq_true rfl) dX8_addWord_64 (fun r_18 hr_19 => ?_)
    subst hr_19
    have hf_20 := rd_bd sg (k) ((x + 6 * y + 24 * w))
    refine r_bipushZ C dX8_addWord_67 (by decide) ?_
    refine r_ceq 74 C dX8_addWord_69 rfl ⟨⟨by omega, by omega⟩, (by decide)⟩ (fun h_21 => ?_) (fun h_21 => ?_)
    · skip
      refine lv_aload_n C.1 C.2.1 dX8_addWord_74 rfl (lv_at hl 1 rfl) ?_
      refine r_get C hK hP kw_X8 (ci := 6) rfl 0 0 (by decide) kf_X8_11 rfl rfl dX8_addWord_75 ?_
      refine lv_aload_n C.1 C.2.1 dX8_addWord_78 rfl (lv_at hl 1 rfl) ?_
      refine r_get C hK hP kw_X8 (ci := 6) rfl 0 5 (by decide) kf_X8_34 rfl rfl dX8_addWord_79 ?_
      refine lv_iload C.1 C.2.1 dX8_addWord_82 (lv_at hl 0 rfl) ?_
      refine r_astN C hK hP hD hS 1 rfl ⟨by omega, by omega⟩ dX8_addWord_84 (fun H locs hP hD hS => ?_)
      have hP : va_P g.1 vwCl [(v, .inr (6, [.ref v0, .ref v1, .ref v2, .ref v3, .ref v4, nV k, nV nc, nV nb, nV bi, nV mo])), (v0, cN g 8 (upN sg k (x + 6 * y + 24 * w))), (v1, cN g 8 wo)] H := hP
      have hD : va_D A [(v, .inr (6, [.ref v0, .ref v1, .ref v2, .ref v3, .ref v4, nV k, nV nc, nV nb, nV bi, nV mo])), (v0, cN g 8 (upN sg k (x + 6 * y + 24 * w))), (v1, cN g 8 wo)] := hD
      refine lv_aload_n C.1 C.2.1 dX8_addWord_85 rfl (lv_at hl 1 rfl) ?_
      refine r_get C hK hP kw_X8 (ci := 6) rfl 0 1 (by decide) kf_X8_15 rfl rfl dX8_addWord_86 ?_
      refine lv_aload_n C.1 C.2.1 dX8_addWord_89 rfl (lv_at hl 1 rfl) ?_
      refine r_get C hK hP kw_X8 (ci := 6) rfl 0 5 (by decide) kf_X8_34 rfl rfl dX8_addWord_90 ?_
      refine lv_iload C.1 C.2.1 dX8_addWord_93 (lv_at hl 5 rfl) ?_
      refine r_astN C hK hP hD hS 2 rfl ⟨by omega, by omega⟩ dX8_addWord_95 (fun H locs hP hD hS => ?_)
      have hP : va_P g.1 vwCl [(v, .inr (6, [.ref v0, .ref v1, .ref v2, .ref v3, .ref v4, nV k, nV nc, nV nb, nV bi, nV mo])), (v0, cN g 8 (upN sg k (x + 6 * y + 24 * w))), (v1, cN g 8 (upN wo k z))] H := hP
      have hD : va_D A [(v, .inr (6, [.ref v0, .ref v1, .ref v2, .ref v3, .ref v4, nV k, nV nc, nV nb, nV bi, nV mo])), (v0, cN g 8 (upN sg k (x + 6 * y + 24 * w))), (v1, cN g 8 (upN wo k z))] := hD
      refine lv_aload_n C.1 C.2.1 dX8_addWord_96 rfl (lv_at hl 1 rfl) ?_
      refine lv_dup C.1 C.2.1 dX8_addWord_97 rfl ?_
      refine r_get C hK hP kw_X8 (ci := 6) rfl 0 5 (by decide) kf_X8_34 rfl rfl dX8_addWord_98 ?_
      refine r_iconst 1 C dX8_addWord_101 rfl ?_
      refine r_addN C dX8_addWord_102 ?_
      refine r_put (v := nV (k + 1)) C hK hP hD hS kw_X8 tyX8_ok nmX8 (ci := 6) rfl 0 5 (by decide) kf_X8_34 rfl rfl rfl rfl rfl (Nat.le_of_ble_eq_true rfl) dX8_addWord_103 (fun H locs hP hD hS => ?_)
      have hP : va_P g.1 vwCl [(v, .inr (6, [.ref v0, .ref v1, .ref v2, .ref v3, .ref v4, nV (k + 1), nV nc, nV nb, nV bi, nV mo])), (v0, cN g 8 (upN sg k (x + 6 * y + 24 * w))), (v1, cN g 8 (upN wo k z))] H := hP
      have hD : va_D A [(v, .inr (6, [.ref v0, .ref v1, .ref v2, .ref v3, .ref v4, nV (k + 1), nV nc, nV nb, nV bi, nV mo])), (v0, cN g 8 (upN sg k (x + 6 * y + 24 * w))), (v1, cN g 8 (upN wo k z))] := hD
      refine r_iconst 1 C dX8_addWord_106 rfl ?_
      exact ret (()) dX8_addWord_107 (by decide) hS (by have hf : aw sg k x y w = true := decide_eq_true ⟨by omega, by omega, by omega, by omega, by omega⟩; rw [if_pos hf, if_pos hf, if_pos hf]; exact hP) (bI_1 (decide_eq_true ⟨by omega, by omega, by omega, by omega, by omega⟩))
    refine r_iconst 0 C dX8_addWord_72 rfl ?_
    exact ret (()) dX8_addWord_73 (by decide) hS (by have hf : aw sg k x y w = false := decide_eq_false (by omega); rw [if_neg (by rw [hf]; decide), if_neg (by rw [hf]; decide), if_neg (by rw [hf]; decide)]; exact hP) (bI_z (by have hf : aw sg k x y w = false := decide_eq_false (by omega); rw [hf]; decide))
  refine r_iconst 0 C dX8_addWord_27 rfl ?_
  exact ret (()) dX8_addWord_28 (by decide) hS (by have hf : aw sg k x y w = false := decide_eq_false (by omega); rw [if_neg (by rw [hf]; decide), if_neg (by rw [hf]; decide), if_neg (by rw [hf]; decide)]; exact hP) (bI_z (by have hf : aw sg k x y w = false := decide_eq_false (by omega); rw [hf]; decide))
set_option maxHeartbeats 4000000 in
set_option maxRecDepth 100000 in
theorem c_X8_setLosses (l : Launch) (g : GG) (v : Nat) (v0 : Nat) (v1 : Nat) (v2 : Nat) (v3 : Nat) (v4 : Nat) (k : Nat) (nc : Nat) (nb : Nat) (bi : Nat) (mo : Nat) (x : Nat) (y : Nat) (hx : x < 100) (hy : y < 100) : WRi g l yX8_setLosses cX8_setLosses 3 (some .boolean) 2 [(v, .inr (6, [.ref v0, .ref v1, .ref v2, .ref v3, .ref v4, nV k, nV nc, nV nb, nV bi, nV mo]))] [.ref v, nV x, nV y] (fun r (_ : Unit) => r = bI (al x y = true)) (fun (_ : Unit) => [(v, .inr (6, [.ref v0, .ref v1, .ref v2, .ref v3, .ref v4, nV k, nV nc, nV nb, nV (if al x y = true then x else bi), nV (if al x y = true then y else mo)]))]) := by
  refine wr_startZ (by decide +kernel) (Nat.le_of_ble_eq_true rfl) ?_
  intro p e s m args below meth c Q A ls C hK hA ret hP hD hS hl
  have C : CT p s m args meth c cX8_setLosses RX8 3 := C
  have hl : lv_has ls 3 [(0, .ref v), (1, nV x), (2, nV y)] := hl
  refine lv_iload_n C.1 C.2.1 dX8_setLosses_0 rfl (lv_at hl 1 rfl) ?_
  refine r_iconst 1 C dX8_setLosses_1 rfl ?_
  refine r_bipush 9 C dX8_setLosses_2 (by decide) ?_
  refine ro_callSN (As := [nV x, nV 1, nV 9]) (rest := []) C hK (c_X9_within l g ((x : Nat) : Int) ((1 : Nat) : Int) ((9 : Nat) : Int) (by first | assumption | exact ⟨by omega, by omega⟩) (by first | assumption | exact ⟨by omega, by omega⟩) (by first | assumption | exact ⟨by omega, by omega⟩)) (hP.sub (ws' := []) [] rfl) kc_X9_within kx_X8_43 kn_X9 ks_X9_within nk_X9_within (rm_lt (by decide) (by decide)) hl rfl (Nat.le_of_ble_eq_true rfl) dX8_setLosses_4 (fun r_1 hr_2 => ?_)
  subst hr_2
  refine r_beq 20 C dX8_setLosses_7 rfl (fun h_3 => ?_) (fun h_3 => ?_)
  · skip
    refine r_iconst 0 C dX8_setLosses_20 rfl ?_
    exact ret (()) dX8_setLosses_21 (by decide) hS (by have hf : al x y = false := decide_eq_false (by omega); rw [if_neg (by rw [hf]; decide), if_neg (by rw [hf]; decide)]; exact hP) (bI_z (by have hf : al x y = false := decide_eq_false (by omega); rw [hf]; decide))
  refine lv_iload_n C.1 C.2.1 dX8_setLosses_10 rfl (lv_at hl 2 rfl) ?_
  refine r_iconst 1 C dX8_setLosses_11 rfl ?_
  refine r_bipush 9 C dX8_setLosses_12 (by decide) ?_
  refine ro_callSN (As := [nV y, nV 1, nV 9]) (rest := []) C hK (c_X9_within l g ((y : Nat) : Int) ((1 : Nat) : Int) ((9 : Nat) : Int) (by first | assumption | exact ⟨by omega, by omega⟩) (by first | assumption | exact ⟨by omega, by omega⟩) (by first | assumption | exact ⟨by omega, by omega⟩)) (hP.sub (ws' := []) [] rfl) kc_X9_within kx_X8_43 kn_X9 ks_X9_within nk_X9_within (rm_lt (by decide) (by decide)) hl rfl (Nat.le_of_ble_eq_true rfl) dX8_setLosses_14 (fun r_4 hr_5 => ?_)
  subst hr_5
  refine r_bne 22 C dX8_setLosses_17 rfl (fun h_6 => ?_) (fun h_6 => ?_)
  · skip
    refine lv_aload_n C.1 C.2.1 dX8_setLosses_22 rfl (lv_at hl 0 rfl) ?_
    refine lv_iload_n C.1 C.2.1 dX8_setLosses_23 rfl (lv_at hl 1 rfl) ?_
    refine r_put (v := nV x) C hK hP hD hS kw_X8 tyX8_ok nmX8 (ci := 6) rfl 0 8 (by decide) kf_X8_27 rfl rfl rfl rfl rfl (Nat.le_of_ble_eq_true rfl) dX8_setLosses_24 (fun H locs hP hD hS => ?_)
    have hP : va_P g.1 vwCl [(v, .inr (6, [.ref v0, .ref v1, .ref v2, .ref v3, .ref v4, nV k, nV nc, nV nb, nV x, nV mo]))] H := hP
    have hD : va_D A [(v, .inr (6, [.ref v0, .ref v1, .ref v2, .ref v3, .ref v4, nV k, nV nc, nV nb, nV x, nV mo]))] := hD
    refine lv_aload_n C.1 C.2.1 dX8_setLosses_27 rfl (lv_at hl 0 rfl) ?_
    refine lv_iload_n C.1 C.2.1 dX8_setLosses_28 rfl (lv_at hl 2 rfl) ?_
    refine r_put (v := nV y) C hK hP hD hS kw_X8 tyX8_ok nmX8 (ci := 6) rfl 0 9 (by decide) kf_X8_31 rfl rfl rfl rfl rfl (Nat.le_of_ble_eq_true rfl) dX8_setLosses_29 (fun H locs hP hD hS => ?_)
    have hP : va_P g.1 vwCl [(v, .inr (6, [.ref v0, .ref v1, .ref v2, .ref v3, .ref v4, nV k, nV nc, nV nb, nV x, nV y]))] H := hP
    have hD : va_D A [(v, .inr (6, [.ref v0, .ref v1, .ref v2, .ref v3, .ref v4, nV k, nV nc, nV nb, nV x, nV y]))] := hD
    refine r_iconst 1 C dX8_setLosses_32 rfl ?_
    exact ret (()) dX8_setLosses_33 (by decide) hS (by have hf : al x y = true := decide_eq_true (by omega); rw [if_pos hf, if_pos hf]; exact hP) (bI_1 (decide_eq_true (by omega)))
  refine r_iconst 0 C dX8_setLosses_20 rfl ?_
  exact ret (()) dX8_setLosses_21 (by decide) hS (by have hf : al x y = false := decide_eq_false (by omega); rw [if_neg (by rw [hf]; decide), if_neg (by rw [hf]; decide)]; exact hP) (bI_z (by have hf : al x y = false := decide_eq_false (by omega); rw [hf]; decide))
set_option maxHeartbeats 4000000 in
set_option maxRecDepth 100000 in
theorem c_X8_addCarrier (l : Launch) (g : GG) (v : Nat) (v0 : Nat) (v1 : Nat) (v2 : Nat) (v3 : Nat) (v4 : Nat) (hu : Nat → Nat) (mi : Nat → Nat) (k : Nat) (nc : Nat) (nb : Nat) (bi : Nat) (mo : Nat) (x : Nat) (y : Nat) (hx : x < 100) (hy : y < 100) (hnc : nc ≤ 5) : WRi g l yX8_addCarrier cX8_addCarrier 3 (some .boolean) 2 [(v, .inr (6, [.ref v0, .ref v1, .ref v2, .ref v3, .ref v4, nV k, nV nc, nV nb, nV bi, nV mo])), (v2, cN g 5 hu), (v3, cN g 5 mi)] [.ref v, nV x, nV y] (fun r (_ : Unit) => r = bI (ac nc x y = true)) (fun (_ : Unit) => [(v, .inr (6, [.ref v0, .ref v1, .ref v2, .ref v3, .ref v4, nV k, nV (if ac nc x y = true then nc + 1 else nc), nV nb, nV bi, nV mo])), (v2, cN g 5 (if ac nc x y = true then upN hu nc x else hu)), (v3, cN g 5 (if ac nc x y = true then upN mi nc y else mi))]) := by
  refine wr_startZ (by decide +kernel) (Nat.le_of_ble_eq_true rfl) ?_
  intro p e s m args below meth c Q A ls C hK hA ret hP hD hS hl
  have C : CT p s m args meth c cX8_addCarrier RX8 3 := C
  have hl : lv_has ls 3 [(0, .ref v), (1, nV x), (2, nV y)] := hl
  refine lv_iload_n C.1 C.2.1 dX8_addCarrier_0 rfl (lv_at hl 1 rfl) ?_
  refine r_iconst 0 C dX8_addCarrier_1 rfl ?_
  refine r_bipush 9 C dX8_addCarrier_2 (by decide) ?_
  refine ro_callSN (As := [nV x, nV 0, nV 9]) (rest := []) C hK (c_X9_within l g ((x : Nat) : Int) ((0 : Nat) : Int) ((9 : Nat) : Int) (by first | assumption | exact ⟨by omega, by omega⟩) (by first | assumption | exact ⟨by omega, by omega⟩) (by first | assumption | exact ⟨by omega, by omega⟩)) (hP.sub (ws' := []) [] rfl) kc_X9_within kx_X8_43 kn_X9 ks_X9_within nk_X9_within (rm_lt (by decide) (by decide)) hl rfl (Nat.le_of_ble_eq_true rfl) dX8_addCarrier_4 (fun r_1 hr_2 => ?_)
  subst hr_2
  refine r_beq 32 C dX8_addCarrier_7 rfl (fun h_3 => ?_) (fun h_3 => ?_)
  · skip
    refine r_iconst 0 C dX8_addCarrier_32 rfl ?_
    exact ret (()) dX8_addCarrier_33 (by decide) hS (by have hf : ac nc x y = false := decide_eq_false (by omega); rw [if_neg (by rw [hf]; decide), if_neg (by rw [hf]; decide), if_neg (by rw [hf]; decide)]; exact hP) (bI_z (by have hf : ac nc x y = false := decide_eq_false (by omega); rw [hf]; decide))
  refine lv_iload_n C.1 C.2.1 dX8_addCarrier_10 rfl (lv_at hl 2 rfl) ?_
  refine r_iconst 1 C dX8_addCarrier_11 rfl ?_
  refine r_bipush 6 C dX8_addCarrier_12 (by decide) ?_
  refine ro_callSN (As := [nV y, nV 1, nV 6]) (rest := []) C hK (c_X9_within l g ((y : Nat) : Int) ((1 : Nat) : Int) ((6 : Nat) : Int) (by first | assumption | exact ⟨by omega, by omega⟩) (by first | assumption | exact ⟨by omega, by omega⟩) (by first | assumption | exact ⟨by omega, by omega⟩)) (hP.sub (ws' := []) [] rfl) kc_X9_within kx_X8_43 kn_X9 ks_X9_within nk_X9_within (rm_lt (by decide) (by decide)) hl rfl (Nat.le_of_ble_eq_true rfl) dX8_addCarrier_14 (fun r_4 hr_5 => ?_)
  subst hr_5
  refine r_beq 32 C dX8_addCarrier_17 rfl (fun h_6 => ?_) (fun h_6 => ?_)
  · skip
    refine r_iconst 0 C dX8_addCarrier_32 rfl ?_
    exact ret (()) dX8_addCarrier_33 (by decide) hS (by have hf : ac nc x y = false := decide_eq_false (by omega); rw [if_neg (by rw [hf]; decide), if_neg (by rw [hf]; decide), if_neg (by rw [hf]; decide)]; exact hP) (bI_z (by have hf : ac nc x y = false := decide_eq_false (by omega); rw [hf]; decide))
  refine lv_aload_n C.1 C.2.1 dX8_addCarrier_20 rfl (lv_at hl 0 rfl) ?_
  refine r_get C hK hP kw_X8 (ci := 6) rfl 0 6 (by decide) kf_X8_37 rfl rfl dX8_addCarrier_21 ?_
  refine r_iconst 0 C dX8_addCarrier_24 rfl ?_
  refine r_iconst 4 C dX8_addCarrier_25 rfl ?_
  refine ro_callSN (As := [nV nc, nV 0, nV 4]) (rest := []) C hK (c_X9_within l g ((nc : Nat) : Int) ((0 : Nat) : Int) ((4 : Nat) : Int) (by first | assumption | exact ⟨by omega, by omega⟩) (by first | assumption | exact ⟨by omega, by omega⟩) (by first | assumption | exact ⟨by omega, by omega⟩)) (hP.sub (ws' := []) [] rfl) kc_X9_within kx_X8_43 kn_X9 ks_X9_within nk_X9_within (rm_lt (by decide) (by decide)) hl rfl (Nat.le_of_ble_eq_true rfl) dX8_addCarrier_26 (fun r_7 hr_8 => ?_)
  subst hr_8
  refine r_bne 34 C dX8_addCarrier_29 rfl (fun h_9 => ?_) (fun h_9 => ?_)
  · skip
    refine lv_aload_n C.1 C.2.1 dX8_addCarrier_34 rfl (lv_at hl 0 rfl) ?_
    refine r_get C hK hP kw_X8 (ci := 6) rfl 0 2 (by decide) kf_X8_18 rfl rfl dX8_addCarrier_35 ?_
    refine lv_aload_n C.1 C.2.1 dX8_addCarrier_38 rfl (lv_at hl 0 rfl) ?_
    refine r_get C hK hP kw_X8 (ci := 6) rfl 0 6 (by decide) kf_X8_37 rfl rfl dX8_addCarrier_39 ?_
    refine lv_iload_n C.1 C.2.1 dX8_addCarrier_42 rfl (lv_at hl 1 rfl) ?_
    refine r_astN C hK hP hD hS 1 rfl ⟨by omega, by omega⟩ dX8_addCarrier_43 (fun H locs hP hD hS => ?_)
    have hP : va_P g.1 vwCl [(v, .inr (6, [.ref v0, .ref v1, .ref v2, .ref v3, .ref v4, nV k, nV nc, nV nb, nV bi, nV mo])), (v2, cN g 5 (upN hu nc x)), (v3, cN g 5 mi)] H := hP
    have hD : va_D A [(v, .inr (6, [.ref v0, .ref v1, .ref v2, .ref v3, .ref v4, nV k, nV nc, nV nb, nV bi, nV mo])), (v2, cN g 5 (upN hu nc x)), (v3, cN g 5 mi)] := hD
    refine lv_aload_n C.1 C.2.1 dX8_addCarrier_44 rfl (lv_at hl 0 rfl) ?_
    refine r_get C hK hP kw_X8 (ci := 6) rfl 0 3 (by decide) kf_X8_21 rfl rfl dX8_addCarrier_45 ?_
    refine lv_aload_n C.1 C.2.1 dX8_addCarrier_48 rfl (lv_at hl 0 rfl) ?_
    refine r_get C hK hP kw_X8 (ci := 6) rfl 0 6 (by decide) kf_X8_37 rfl rfl dX8_addCarrier_49 ?_
    refine lv_iload_n C.1 C.2.1 dX8_addCarrier_52 rfl (lv_at hl 2 rfl) ?_
    refine r_astN C hK hP hD hS 2 rfl ⟨by omega, by omega⟩ dX8_addCarrier_53 (fun H locs hP hD hS => ?_)
    have hP : va_P g.1 vwCl [(v, .inr (6, [.ref v0, .ref v1, .ref v2, .ref v3, .ref v4, nV k, nV nc, nV nb, nV bi, nV mo])), (v2, cN g 5 (upN hu nc x)), (v3, cN g 5 (upN mi nc y))] H := hP
    have hD : va_D A [(v, .inr (6, [.ref v0, .ref v1, .ref v2, .ref v3, .ref v4, nV k, nV nc, nV nb, nV bi, nV mo])), (v2, cN g 5 (upN hu nc x)), (v3, cN g 5 (upN mi nc y))] := hD
    refine lv_aload_n C.1 C.2.1 dX8_addCarrier_54 rfl (lv_at hl 0 rfl) ?_
    refine lv_dup C.1 C.2.1 dX8_addCarrier_55 rfl ?_
    refine r_get C hK hP kw_X8 (ci := 6) rfl 0 6 (by decide) kf_X8_37 rfl rfl dX8_addCarrier_56 ?_
    refine r_iconst 1 C dX8_addCarrier_59 rfl ?_
    refine r_addN C dX8_addCarrier_60 ?_
    refine r_put (v := nV (nc + 1)) C hK hP hD hS kw_X8 tyX8_ok nmX8 (ci := 6) rfl 0 6 (by decide) kf_X8_37 rfl rfl rfl rfl rfl (Nat.le_of_ble_eq_true rfl) dX8_addCarrier_61 (fun H locs hP hD hS => ?_)
    have hP : va_P g.1 vwCl [(v, .inr (6, [.ref v0, .ref v1, .ref v2, .ref v3, .ref v4, nV k, nV (nc + 1), nV nb, nV bi, nV mo])), (v2, cN g 5 (upN hu nc x)), (v3, cN g 5 (upN mi nc y))] H := hP
    have hD : va_D A [(v, .inr (6, [.ref v0, .ref v1, .ref v2, .ref v3, .ref v4, nV k, nV (nc + 1), nV nb, nV bi, nV mo])), (v2, cN g 5 (upN hu nc x)), (v3, cN g 5 (upN mi nc y))] := hD
    refine r_iconst 1 C dX8_addCarrier_64 rfl ?_
    exact ret (()) dX8_addCarrier_65 (by decide) hS (by have hf : ac nc x y = true := decide_eq_true (by omega); rw [if_pos hf, if_pos hf, if_pos hf]; exact hP) (bI_1 (decide_eq_true (by omega)))
  refine r_iconst 0 C dX8_addCarrier_32 rfl ?_
  exact ret (()) dX8_addCarrier_33 (by decide) hS (by have hf : ac nc x y = false := decide_eq_false (by omega); rw [if_neg (by rw [hf]; decide), if_neg (by rw [hf]; decide), if_neg (by rw [hf]; decide)]; exact hP) (bI_z (by have hf : ac nc x y = false := decide_eq_false (by omega); rw [hf]; decide))
set_option maxHeartbeats 4000000 in
set_option maxRecDepth 100000 in
theorem c_X8_addBaker (l : Launch) (g : GG) (v : Nat) (v0 : Nat) (v1 : Nat) (v2 : Nat) (v3 : Nat) (v4 : Nat) (kn : Nat → Nat) (k : Nat) (nc : Nat) (nb : Nat) (bi : Nat) (mo : Nat) (x : Nat) (hx : x < 100) (hnb : nb ≤ 5) : WRi g l yX8_addBaker cX8_addBaker 2 (some .boolean) 2 [(v, .inr (6, [.ref v0, .ref v1, .ref v2, .ref v3, .ref v4, nV k, nV nc, nV nb, nV bi, nV mo])), (v4, cN g 5 kn)] [.ref v, nV x] (fun r (_ : Unit) => r = bI (ab nb x = true)) (fun (_ : Unit) => [(v, .inr (6, [.ref v0, .ref v1, .ref v2, .ref v3, .ref v4, nV k, nV nc, nV (if ab nb x = true then nb + 1 else nb), nV bi, nV mo])), (v4, cN g 5 (if ab nb x = true then upN kn nb x else kn))]) := by
  refine wr_startZ (by decide +kernel) (Nat.le_of_ble_eq_true rfl) ?_
  intro p e s m args below meth c Q A ls C hK hA ret hP hD hS hl
  have C : CT p s m args meth c cX8_addBaker RX8 2 := C
  have hl : lv_has ls 2 [(0, .ref v), (1, nV x)] := hl
  refine lv_iload_n C.1 C.2.1 dX8_addBaker_0 rfl (lv_at hl 1 rfl) ?_
  refine r_iconst 0 C dX8_addBaker_1 rfl ?_
  refine r_bipush 63 C dX8_addBaker_2 (by decide) ?_
  refine ro_callSN (As := [nV x, nV 0, nV 63]) (rest := []) C hK (c_X9_within l g ((x : Nat) : Int) ((0 : Nat) : Int) ((63 : Nat) : Int) (by first | assumption | exact ⟨by omega, by omega⟩) (by first | assumption | exact ⟨by omega, by omega⟩) (by first | assumption | exact ⟨by omega, by omega⟩)) (hP.sub (ws' := []) [] rfl) kc_X9_within kx_X8_43 kn_X9 ks_X9_within nk_X9_within (rm_lt (by decide) (by decide)) hl rfl (Nat.le_of_ble_eq_true rfl) dX8_addBaker_4 (fun r_1 hr_2 => ?_)
  subst hr_2
  refine r_beq 22 C dX8_addBaker_7 rfl (fun h_3 => ?_) (fun h_3 => ?_)
  · skip
    refine r_iconst 0 C dX8_addBaker_22 rfl ?_
    exact ret (()) dX8_addBaker_23 (by decide) hS (by have hf : ab nb x = false := decide_eq_false (by omega); rw [if_neg (by rw [hf]; decide), if_neg (by rw [hf]; decide)]; exact hP) (bI_z (by have hf : ab nb x = false := decide_eq_false (by omega); rw [hf]; decide))
  refine lv_aload_n C.1 C.2.1 dX8_addBaker_10 rfl (lv_at hl 0 rfl) ?_
  refine r_get C hK hP kw_X8 (ci := 6) rfl 0 7 (by decide) kf_X8_40 rfl rfl dX8_addBaker_11 ?_
  refine r_iconst 0 C dX8_addBaker_14 rfl ?_
  refine r_iconst 4 C dX8_addBaker_15 rfl ?_
  refine ro_callSN (As := [nV nb, nV 0, nV 4]) (rest := []) C hK (c_X9_within l g ((nb : Nat) : Int) ((0 : Nat) : Int) ((4 : Nat) : Int) (by first | assumption | exact ⟨by omega, by omega⟩) (by first | assumption | exact ⟨by omega, by omega⟩) (by first | assumption | exact ⟨by omega, by omega⟩)) (hP.sub (ws' := []) [] rfl) kc_X9_within kx_X8_43 kn_X9 ks_X9_within nk_X9_within (rm_lt (by decide) (by decide)) hl rfl (Nat.le_of_ble_eq_true rfl) dX8_addBaker_16 (fun r_4 hr_5 => ?_)
  subst hr_5
  refine r_bne 24 C dX8_addBaker_19 rfl (fun h_6 => ?_) (fun h_6 => ?_)
  · skip
    refine lv_aload_n C.1 C.2.1 dX8_addBaker_24 rfl (lv_at hl 0 rfl) ?_
    refine r_get C hK hP kw_X8 (ci := 6) rfl 0 4 (by decide) kf_X8_24 rfl rfl dX8_addBaker_25 ?_
    refine lv_aload_n C.1 C.2.1 dX8_addBaker_28 rfl (lv_at hl 0 rfl) ?_
    refine r_get C hK hP kw_X8 (ci := 6) rfl 0 7 (by decide) kf_X8_40 rfl rfl dX8_addBaker_29 ?_
    refine lv_iload_n C.1 C.2.1 dX8_addBaker_32 rfl (lv_at hl 1 rfl) ?_
    refine r_astN C hK hP hD hS 1 rfl ⟨by omega, by omega⟩ dX8_addBaker_33 (fun H locs hP hD hS => ?_)
    have hP : va_P g.1 vwCl [(v, .inr (6, [.ref v0, .ref v1, .ref v2, .ref v3, .ref v4, nV k, nV nc, nV nb, nV bi, nV mo])), (v4, cN g 5 (upN kn nb x))] H := hP
    have hD : va_D A [(v, .inr (6, [.ref v0, .ref v1, .ref v2, .ref v3, .ref v4, nV k, nV nc, nV nb, nV bi, nV mo])), (v4, cN g 5 (upN kn nb x))] := hD
    refine lv_aload_n C.1 C.2.1 dX8_addBaker_34 rfl (lv_at hl 0 rfl) ?_
    refine lv_dup C.1 C.2.1 dX8_addBaker_35 rfl ?_
    refine r_get C hK hP kw_X8 (ci := 6) rfl 0 7 (by decide) kf_X8_40 rfl rfl dX8_addBaker_36 ?_
    refine r_iconst 1 C dX8_addBaker_39 rfl ?_
    refine r_addN C dX8_addBaker_40 ?_
    refine r_put (v := nV (nb + 1)) C hK hP hD hS kw_X8 tyX8_ok nmX8 (ci := 6) rfl 0 7 (by decide) kf_X8_40 rfl rfl rfl rfl rfl (Nat.le_of_ble_eq_true rfl) dX8_addBaker_41 (fun H locs hP hD hS => ?_)
    have hP : va_P g.1 vwCl [(v, .inr (6, [.ref v0, .ref v1, .ref v2, .ref v3, .ref v4, nV k, nV nc, nV (nb + 1), nV bi, nV mo])), (v4, cN g 5 (upN kn nb x))] H := hP
    have hD : va_D A [(v, .inr (6, [.ref v0, .ref v1, .ref v2, .ref v3, .ref v4, nV k, nV nc, nV (nb + 1), nV bi, nV mo])), (v4, cN g 5 (upN kn nb x))] := hD
    refine r_iconst 1 C dX8_addBaker_44 rfl ?_
    exact ret (()) dX8_addBaker_45 (by decide) hS (by have hf : ab nb x = true := decide_eq_true (by omega); rw [if_pos hf, if_pos hf]; exact hP) (bI_1 (decide_eq_true (by omega)))
  refine r_iconst 0 C dX8_addBaker_22 rfl ?_
  exact ret (()) dX8_addBaker_23 (by decide) hS (by have hf : ab nb x = false := decide_eq_false (by omega); rw [if_neg (by rw [hf]; decide), if_neg (by rw [hf]; decide)]; exact hP) (bI_z (by have hf : ab nb x = false := decide_eq_false (by omega); rw [hf]; decide))
end
