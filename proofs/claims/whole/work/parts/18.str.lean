/-! STRING CONSTANTS: length and charAt, walked (made by wip/gen/strs.py) -/
def M_Slen : aMI := ("java/lang/String", prog_19_method_54_code, 1, (some .int), ⟨"java/lang/String", "length", "()I"⟩, [])
def M_Scod : aMI := ("java/lang/String", prog_19_method_152_code, 1, (some .byte), ⟨"java/lang/String", "coder", "()B"⟩, [])
def M_Schr : aMI := ("java/lang/String", prog_19_method_56_code, 2, (some .char), ⟨"java/lang/String", "charAt", "(I)C"⟩, [])
def M_Slat : aMI := ("java/lang/String", prog_19_method_154_code, 1, (some .boolean), ⟨"java/lang/String", "isLatin1", "()Z"⟩, [])
def M_Lchr : aMI := ("java/lang/StringLatin1", prog_20_method_2_code, 2, (some .char), ⟨"java/lang/StringLatin1", "charAt", "([BI)C"⟩, [])
def M_Schk : aMI := ("java/lang/String", prog_19_method_155_code, 2, none, ⟨"java/lang/String", "checkIndex", "(II)V"⟩, [])
def M_Pchk : aMI := ("jdk/internal/util/Preconditions", prog_25_method_11_code, 3, (some .int), ⟨"jdk/internal/util/Preconditions", "checkIndex", "(IILjava/util/function/BiFunction;)I"⟩, [])
theorem k_Slen_0 : decode M_Slen.2.1 0 = .ok (.aload_n 0, 1) := by decide +kernel
theorem k_Slen_1 : decode M_Slen.2.1 1 = .ok (.getfield 9, 3) := by decide +kernel
theorem k_Slen_4 : decode M_Slen.2.1 4 = .ok (.arraylength, 1) := by decide +kernel
theorem k_Slen_5 : decode M_Slen.2.1 5 = .ok (.aload_n 0, 1) := by decide +kernel
theorem k_Slen_6 : decode M_Slen.2.1 6 = .ok (.invokevirtual 335, 3) := by decide +kernel
theorem k_Slen_9 : decode M_Slen.2.1 9 = .ok (.ishr, 1) := by decide +kernel
theorem k_Slen_10 : decode M_Slen.2.1 10 = .ok (.ireturn, 1) := by decide +kernel
theorem k_Scod_0 : decode M_Scod.2.1 0 = .ok (.getstatic 38, 3) := by decide +kernel
theorem k_Scod_3 : decode M_Scod.2.1 3 = .ok (.ifCond .eq 10, 3) := by decide +kernel
theorem k_Scod_6 : decode M_Scod.2.1 6 = .ok (.aload_n 0, 1) := by decide +kernel
theorem k_Scod_7 : decode M_Scod.2.1 7 = .ok (.getfield 15, 3) := by decide +kernel
theorem k_Scod_10 : decode M_Scod.2.1 10 = .ok (.goto 4, 3) := by decide +kernel
theorem k_Scod_14 : decode M_Scod.2.1 14 = .ok (.ireturn, 1) := by decide +kernel
theorem k_Slat_0 : decode M_Slat.2.1 0 = .ok (.getstatic 38, 3) := by decide +kernel
theorem k_Slat_3 : decode M_Slat.2.1 3 = .ok (.ifCond .eq 14, 3) := by decide +kernel
theorem k_Slat_6 : decode M_Slat.2.1 6 = .ok (.aload_n 0, 1) := by decide +kernel
theorem k_Slat_7 : decode M_Slat.2.1 7 = .ok (.getfield 15, 3) := by decide +kernel
theorem k_Slat_10 : decode M_Slat.2.1 10 = .ok (.ifCond .ne 7, 3) := by decide +kernel
theorem k_Slat_13 : decode M_Slat.2.1 13 = .ok (.iconst 1, 1) := by decide +kernel
theorem k_Slat_14 : decode M_Slat.2.1 14 = .ok (.goto 4, 3) := by decide +kernel
theorem k_Slat_18 : decode M_Slat.2.1 18 = .ok (.ireturn, 1) := by decide +kernel
theorem k_Pchk_0 : decode M_Pchk.2.1 0 = .ok (.iload_n 0, 1) := by decide +kernel
theorem k_Pchk_1 : decode M_Pchk.2.1 1 = .ok (.ifCond .lt 8, 3) := by decide +kernel
theorem k_Pchk_4 : decode M_Pchk.2.1 4 = .ok (.iload_n 0, 1) := by decide +kernel
theorem k_Pchk_5 : decode M_Pchk.2.1 5 = .ok (.iload_n 1, 1) := by decide +kernel
theorem k_Pchk_6 : decode M_Pchk.2.1 6 = .ok (.if_icmp .lt 10, 3) := by decide +kernel
theorem k_Pchk_16 : decode M_Pchk.2.1 16 = .ok (.iload_n 0, 1) := by decide +kernel
theorem k_Pchk_17 : decode M_Pchk.2.1 17 = .ok (.ireturn, 1) := by decide +kernel
theorem k_Schk_0 : decode M_Schk.2.1 0 = .ok (.iload_n 0, 1) := by decide +kernel
theorem k_Schk_1 : decode M_Schk.2.1 1 = .ok (.iload_n 1, 1) := by decide +kernel
theorem k_Schk_2 : decode M_Schk.2.1 2 = .ok (.getstatic 1053, 3) := by decide +kernel
theorem k_Schk_5 : decode M_Schk.2.1 5 = .ok (.invokestatic 1059, 3) := by decide +kernel
theorem k_Schk_8 : decode M_Schk.2.1 8 = .ok (.pop, 1) := by decide +kernel
theorem k_Schk_9 : decode M_Schk.2.1 9 = .ok (.return_, 1) := by decide +kernel
theorem k_Lchr_0 : decode M_Lchr.2.1 0 = .ok (.iload_n 1, 1) := by decide +kernel
theorem k_Lchr_1 : decode M_Lchr.2.1 1 = .ok (.aload_n 0, 1) := by decide +kernel
theorem k_Lchr_2 : decode M_Lchr.2.1 2 = .ok (.arraylength, 1) := by decide +kernel
theorem k_Lchr_3 : decode M_Lchr.2.1 3 = .ok (.invokestatic 9, 3) := by decide +kernel
theorem k_Lchr_6 : decode M_Lchr.2.1 6 = .ok (.aload_n 0, 1) := by decide +kernel
theorem k_Lchr_7 : decode M_Lchr.2.1 7 = .ok (.iload_n 1, 1) := by decide +kernel
theorem k_Lchr_8 : decode M_Lchr.2.1 8 = .ok (.baload, 1) := by decide +kernel
theorem k_Lchr_9 : decode M_Lchr.2.1 9 = .ok (.sipush 255, 3) := by decide +kernel
theorem k_Lchr_12 : decode M_Lchr.2.1 12 = .ok (.iand, 1) := by decide +kernel
theorem k_Lchr_13 : decode M_Lchr.2.1 13 = .ok (.i2c, 1) := by decide +kernel
theorem k_Lchr_14 : decode M_Lchr.2.1 14 = .ok (.ireturn, 1) := by decide +kernel
theorem k_Schr_0 : decode M_Schr.2.1 0 = .ok (.aload_n 0, 1) := by decide +kernel
theorem k_Schr_1 : decode M_Schr.2.1 1 = .ok (.invokevirtual 492, 3) := by decide +kernel
theorem k_Schr_4 : decode M_Schr.2.1 4 = .ok (.ifCond .eq 12, 3) := by decide +kernel
theorem k_Schr_7 : decode M_Schr.2.1 7 = .ok (.aload_n 0, 1) := by decide +kernel
theorem k_Schr_8 : decode M_Schr.2.1 8 = .ok (.getfield 9, 3) := by decide +kernel
theorem k_Schr_11 : decode M_Schr.2.1 11 = .ok (.iload_n 1, 1) := by decide +kernel
theorem k_Schr_12 : decode M_Schr.2.1 12 = .ok (.invokestatic 495, 3) := by decide +kernel
theorem k_Schr_15 : decode M_Schr.2.1 15 = .ok (.ireturn, 1) := by decide +kernel
theorem ok_Slen : a_ok M_Slen := ⟨by decide +kernel, rfl, by decide +kernel⟩
theorem sw_652 : Cond.code ⟨"java/lang/String", "length", "()I"⟩ prog_19_method_54_code 1 (some .int) ∈ a_w0 := a_w0_in (List.mem_append_right _ (List.mem_of_getElem? (i := 652) (by decide +kernel))) rfl
theorem sw_16 : Cond.initialized "java/lang/String" ∈ a_w0 := a_w0_in (List.mem_append_right _ (List.mem_of_getElem? (i := 16) (by decide +kernel))) rfl
theorem cm_Slen : a_cm M_Slen 0 := ⟨sw_652, rfl, sw_16, by decide, by decide +kernel, by decide +kernel, by decide +kernel⟩
theorem ok_Scod : a_ok M_Scod := ⟨by decide +kernel, rfl, by decide +kernel⟩
theorem sw_656 : Cond.code ⟨"java/lang/String", "coder", "()B"⟩ prog_19_method_152_code 1 (some .byte) ∈ a_w0 := a_w0_in (List.mem_append_right _ (List.mem_of_getElem? (i := 656) (by decide +kernel))) rfl
theorem cm_Scod : a_cm M_Scod 0 := ⟨sw_656, rfl, sw_16, by decide, by decide +kernel, by decide +kernel, by decide +kernel⟩
theorem ok_Schr : a_ok M_Schr := ⟨by decide +kernel, rfl, by decide +kernel⟩
theorem sw_662 : Cond.code ⟨"java/lang/String", "charAt", "(I)C"⟩ prog_19_method_56_code 2 (some .char) ∈ a_w0 := a_w0_in (List.mem_append_right _ (List.mem_of_getElem? (i := 662) (by decide +kernel))) rfl
theorem cm_Schr : a_cm M_Schr 1 := ⟨sw_662, rfl, sw_16, by decide, by decide +kernel, by decide +kernel, by decide +kernel⟩
theorem ok_Slat : a_ok M_Slat := ⟨by decide +kernel, rfl, by decide +kernel⟩
theorem sw_666 : Cond.code ⟨"java/lang/String", "isLatin1", "()Z"⟩ prog_19_method_154_code 1 (some .boolean) ∈ a_w0 := a_w0_in (List.mem_append_right _ (List.mem_of_getElem? (i := 666) (by decide +kernel))) rfl
theorem cm_Slat : a_cm M_Slat 0 := ⟨sw_666, rfl, sw_16, by decide, by decide +kernel, by decide +kernel, by decide +kernel⟩
theorem ok_Lchr : a_ok M_Lchr := ⟨by decide +kernel, rfl, by decide +kernel⟩
theorem sw_669 : Cond.code ⟨"java/lang/StringLatin1", "charAt", "([BI)C"⟩ prog_20_method_2_code 2 (some .char) ∈ a_w0 := a_w0_in (List.mem_append_right _ (List.mem_of_getElem? (i := 669) (by decide +kernel))) rfl
theorem sw_17 : Cond.initialized "java/lang/StringLatin1" ∈ a_w0 := a_w0_in (List.mem_append_right _ (List.mem_of_getElem? (i := 17) (by decide +kernel))) rfl
theorem cm_Lchr : a_cm M_Lchr 2 := ⟨sw_669, rfl, sw_17, by decide, by decide +kernel, by decide +kernel, by decide +kernel⟩
theorem ok_Schk : a_ok M_Schk := ⟨by decide +kernel, rfl, by decide +kernel⟩
theorem sw_672 : Cond.code ⟨"java/lang/String", "checkIndex", "(II)V"⟩ prog_19_method_155_code 2 none ∈ a_w0 := a_w0_in (List.mem_append_right _ (List.mem_of_getElem? (i := 672) (by decide +kernel))) rfl
theorem cm_Schk : a_cm M_Schk 2 := ⟨sw_672, rfl, sw_16, by decide, by decide +kernel, by decide +kernel, by decide +kernel⟩
theorem ok_Pchk : a_ok M_Pchk := ⟨by decide +kernel, rfl, by decide +kernel⟩
theorem sw_677 : Cond.code ⟨"jdk/internal/util/Preconditions", "checkIndex", "(IILjava/util/function/BiFunction;)I"⟩ prog_25_method_11_code 3 (some .int) ∈ a_w0 := a_w0_in (List.mem_append_right _ (List.mem_of_getElem? (i := 677) (by decide +kernel))) rfl
theorem sw_18 : Cond.initialized "jdk/internal/util/Preconditions" ∈ a_w0 := a_w0_in (List.mem_append_right _ (List.mem_of_getElem? (i := 18) (by decide +kernel))) rfl
theorem cm_Pchk : a_cm M_Pchk 3 := ⟨sw_677, rfl, sw_18, by decide, by decide +kernel, by decide +kernel, by decide +kernel⟩
theorem sw_649 : Cond.methodLink "LedTables$Reader" 173 ⟨"java/lang/String", "length", "()I"⟩ ∈ a_w0 := a_w0_in (List.mem_append_right _ (List.mem_of_getElem? (i := 649) (by decide +kernel))) rfl
theorem sw_650 : Cond.instanceMethod ⟨"java/lang/String", "length", "()I"⟩ ∈ a_w0 := a_w0_in (List.mem_append_right _ (List.mem_of_getElem? (i := 650) (by decide +kernel))) rfl
theorem sw_651 : Cond.selects "java/lang/String" ⟨"java/lang/String", "length", "()I"⟩ ⟨"java/lang/String", "length", "()I"⟩ ∈ a_w0 := a_w0_in (List.mem_append_right _ (List.mem_of_getElem? (i := 651) (by decide +kernel))) rfl
theorem lv_Rea_173 : a_lv "LedTables$Reader" 173 M_Slen 0 := ⟨sw_649, sw_650, sw_651, cm_Slen⟩
theorem sw_659 : Cond.methodLink "LedTables$Reader" 177 ⟨"java/lang/String", "charAt", "(I)C"⟩ ∈ a_w0 := a_w0_in (List.mem_append_right _ (List.mem_of_getElem? (i := 659) (by decide +kernel))) rfl
theorem sw_660 : Cond.instanceMethod ⟨"java/lang/String", "charAt", "(I)C"⟩ ∈ a_w0 := a_w0_in (List.mem_append_right _ (List.mem_of_getElem? (i := 660) (by decide +kernel))) rfl
theorem sw_661 : Cond.selects "java/lang/String" ⟨"java/lang/String", "charAt", "(I)C"⟩ ⟨"java/lang/String", "charAt", "(I)C"⟩ ∈ a_w0 := a_w0_in (List.mem_append_right _ (List.mem_of_getElem? (i := 661) (by decide +kernel))) rfl
theorem lv_Rea_177 : a_lv "LedTables$Reader" 177 M_Schr 1 := ⟨sw_659, sw_660, sw_661, cm_Schr⟩
theorem sw_653 : Cond.methodLink "java/lang/String" 335 ⟨"java/lang/String", "coder", "()B"⟩ ∈ a_w0 := a_w0_in (List.mem_append_right _ (List.mem_of_getElem? (i := 653) (by decide +kernel))) rfl
theorem sw_654 : Cond.instanceMethod ⟨"java/lang/String", "coder", "()B"⟩ ∈ a_w0 := a_w0_in (List.mem_append_right _ (List.mem_of_getElem? (i := 654) (by decide +kernel))) rfl
theorem sw_655 : Cond.selects "java/lang/String" ⟨"java/lang/String", "coder", "()B"⟩ ⟨"java/lang/String", "coder", "()B"⟩ ∈ a_w0 := a_w0_in (List.mem_append_right _ (List.mem_of_getElem? (i := 655) (by decide +kernel))) rfl
theorem lv_S_335 : a_lv "java/lang/String" 335 M_Scod 0 := ⟨sw_653, sw_654, sw_655, cm_Scod⟩
theorem sw_663 : Cond.methodLink "java/lang/String" 492 ⟨"java/lang/String", "isLatin1", "()Z"⟩ ∈ a_w0 := a_w0_in (List.mem_append_right _ (List.mem_of_getElem? (i := 663) (by decide +kernel))) rfl
theorem sw_664 : Cond.instanceMethod ⟨"java/lang/String", "isLatin1", "()Z"⟩ ∈ a_w0 := a_w0_in (List.mem_append_right _ (List.mem_of_getElem? (i := 664) (by decide +kernel))) rfl
theorem sw_665 : Cond.selects "java/lang/String" ⟨"java/lang/String", "isLatin1", "()Z"⟩ ⟨"java/lang/String", "isLatin1", "()Z"⟩ ∈ a_w0 := a_w0_in (List.mem_append_right _ (List.mem_of_getElem? (i := 665) (by decide +kernel))) rfl
theorem lv_S_492 : a_lv "java/lang/String" 492 M_Slat 0 := ⟨sw_663, sw_664, sw_665, cm_Slat⟩
theorem sw_667 : Cond.methodLink "java/lang/String" 495 ⟨"java/lang/StringLatin1", "charAt", "([BI)C"⟩ ∈ a_w0 := a_w0_in (List.mem_append_right _ (List.mem_of_getElem? (i := 667) (by decide +kernel))) rfl
theorem sw_668 : Cond.static ⟨"java/lang/StringLatin1", "charAt", "([BI)C"⟩ ∈ a_w0 := a_w0_in (List.mem_append_right _ (List.mem_of_getElem? (i := 668) (by decide +kernel))) rfl
theorem ls_S_495 : a_ls "java/lang/String" 495 M_Lchr 2 := ⟨sw_667, sw_668, cm_Lchr⟩
theorem sw_670 : Cond.methodLink "java/lang/StringLatin1" 9 ⟨"java/lang/String", "checkIndex", "(II)V"⟩ ∈ a_w0 := a_w0_in (List.mem_append_right _ (List.mem_of_getElem? (i := 670) (by decide +kernel))) rfl
theorem sw_671 : Cond.static ⟨"java/lang/String", "checkIndex", "(II)V"⟩ ∈ a_w0 := a_w0_in (List.mem_append_right _ (List.mem_of_getElem? (i := 671) (by decide +kernel))) rfl
theorem ls_L_9 : a_ls "java/lang/StringLatin1" 9 M_Schk 2 := ⟨sw_670, sw_671, cm_Schk⟩
theorem sw_675 : Cond.methodLink "java/lang/String" 1059 ⟨"jdk/internal/util/Preconditions", "checkIndex", "(IILjava/util/function/BiFunction;)I"⟩ ∈ a_w0 := a_w0_in (List.mem_append_right _ (List.mem_of_getElem? (i := 675) (by decide +kernel))) rfl
theorem sw_676 : Cond.static ⟨"jdk/internal/util/Preconditions", "checkIndex", "(IILjava/util/function/BiFunction;)I"⟩ ∈ a_w0 := a_w0_in (List.mem_append_right _ (List.mem_of_getElem? (i := 676) (by decide +kernel))) rfl
theorem ls_S_1059 : a_ls "java/lang/String" 1059 M_Pchk 3 := ⟨sw_675, sw_676, cm_Pchk⟩
theorem sw_2041 : Cond.fieldLink "java/lang/String" 9 "java/lang/String" "value" "[B" ∈ a_w0 := a_w0_in (List.mem_append_right _ (List.mem_of_getElem? (i := 2041) (by decide +kernel))) rfl
theorem sw_2042 : Cond.fieldLink "java/lang/String" 15 "java/lang/String" "coder" "B" ∈ a_w0 := a_w0_in (List.mem_append_right _ (List.mem_of_getElem? (i := 2042) (by decide +kernel))) rfl
theorem sw_657 : Cond.fieldLink "java/lang/String" 38 "java/lang/String" "COMPACT_STRINGS" "Z" ∈ a_w0 := a_w0_in (List.mem_append_right _ (List.mem_of_getElem? (i := 657) (by decide +kernel))) rfl
theorem sw_673 : Cond.fieldLink "java/lang/String" 1053 "jdk/internal/util/Preconditions" "SIOOBE_FORMATTER" "Ljava/util/function/BiFunction;" ∈ a_w0 := a_w0_in (List.mem_append_right _ (List.mem_of_getElem? (i := 673) (by decide +kernel))) rfl
theorem i_m8 (x : Int32) : x + Int32.ofInt (-8) = x - 8 := by rw [Int32.sub_eq_add_neg]; rfl
abbrev fw (k : Nat) : UInt32 := UInt32.ofNat (k + 1)
abbrev fv (k : Nat) : UInt32 := UInt32.ofNat (k + 101)
theorem fw_n {k : Nat} (hk : k < 19) : (fw k).toNat = k + 1 := by
  show (UInt32.ofNat (k + 1)).toNat = k + 1
  rw [UInt32.toNat_ofNat']
  omega
theorem fv_n {k : Nat} (hk : k < 19) : (fv k).toNat = k + 101 := by
  show (UInt32.ofNat (k + 101)).toNat = k + 101
  rw [UInt32.toNat_ofNat']
  omega
def sLen (k : Nat) : Int32 := Int32.ofNat (a_len.getD k 0)
def sCh (k i : Nat) : Int32 := (a_byt.getD k []).getD i 0 &&& 255
section
variable {K : aK} {M M' : aMI} {d bc bs pc bc' bs' : Nat} {L S av rest : List Value} {h : aH} {Q : aQ}
theorem g_sval {index k : Nat} (hd : decode M.2.1 pc = .ok (.getfield index, 3)) (hl : Cond.fieldLink M.1 index "java/lang/String" "value" "[B" ∈ a_w0) (hk : k < 19) (k' : G K M d bc bs (pc + 3) L (.float (fv k) :: S) h Q) : G K M d bc bs pc L (.float (fw k) :: S) h Q := by
  intro p e s m args below meth c ρ0 z0 mc ms C ρ H locs cells slots ls g1 g2 g3 g4 g5 g6 g7 g8 g9
  obtain ⟨-, -, -, -, -, -, -, -, -, -, -, -, -, v1, v2, v3, -⟩ := C.2.2.2.2.2.2.2.2.2.1
  have q := (v1.1 k hk).2.2.1
  simp only [] at q
  rw [← fw_n hk, ← fv_n hk] at q
  exact vk_getf C.1 C.2.1 q g7 C.2.2.2.1 (C.2.2.2.2.2.1 _ hl) (fun _ q => q) hd (k' p e s m args below meth c ρ0 z0 mc ms C ρ H locs cells slots ls g1 g2 g3 g4 (sc_co (by trivial) (sc_tl g5)) g6 g7 g8 g9)
theorem g_scod {index k : Nat} (hd : decode M.2.1 pc = .ok (.getfield index, 3)) (hl : Cond.fieldLink M.1 index "java/lang/String" "coder" "B" ∈ a_w0) (hk : k < 19) (k' : G K M d bc bs (pc + 3) L (.int 0 :: S) h Q) : G K M d bc bs pc L (.float (fw k) :: S) h Q := by
  intro p e s m args below meth c ρ0 z0 mc ms C ρ H locs cells slots ls g1 g2 g3 g4 g5 g6 g7 g8 g9
  obtain ⟨-, -, -, -, -, -, -, -, -, -, -, -, -, v1, v2, v3, -⟩ := C.2.2.2.2.2.2.2.2.2.1
  have q := (v1.1 k hk).2.1
  simp only [] at q
  rw [← fw_n hk] at q
  exact vk_getf C.1 C.2.1 q g7 C.2.2.2.1 (C.2.2.2.2.2.1 _ hl) (fun _ q => q) hd (k' p e s m args below meth c ρ0 z0 mc ms C ρ H locs cells slots ls g1 g2 g3 g4 (sc_co (by trivial) (sc_tl g5)) g6 g7 g8 g9)
theorem g_svlen {k : Nat} (hd : decode M.2.1 pc = .ok (.arraylength, 1)) (hk : k < 19) (k' : G K M d bc bs (pc + 1) L (.int (sLen k) :: S) h Q) : G K M d bc bs pc L (.float (fv k) :: S) h Q := by
  intro p e s m args below meth c ρ0 z0 mc ms C ρ H locs cells slots ls g1 g2 g3 g4 g5 g6 g7 g8 g9
  obtain ⟨-, -, -, -, -, -, -, -, -, -, -, -, -, v1, v2, v3, -⟩ := C.2.2.2.2.2.2.2.2.2.1
  have q := (v1.1 k hk).2.2.2
  simp only [] at q
  rw [← fv_n hk] at q
  exact va_tlen C.1 C.2.1 q g7 rfl hd (k' p e s m args below meth c ρ0 z0 mc ms C ρ H locs cells slots ls g1 g2 g3 g4 (sc_co (by trivial) (sc_tl g5)) g6 g7 g8 g9)
theorem g_svld {k : Nat} {i : Int32} (hd : decode M.2.1 pc = .ok (.baload, 1)) (hk : k < 19) (hi : vp_in i (a_len.getD k 0)) (k' : G K M d bc bs (pc + 1) L (.int ((a_byt.getD k []).getD i.toNatClampNeg 0) :: S) h Q) : G K M d bc bs pc L (.int i :: .float (fv k) :: S) h Q := by
  intro p e s m args below meth c ρ0 z0 mc ms C ρ H locs cells slots ls g1 g2 g3 g4 g5 g6 g7 g8 g9
  obtain ⟨-, -, -, -, -, -, -, -, -, -, -, -, -, v1, v2, v3, -⟩ := C.2.2.2.2.2.2.2.2.2.1
  have q := (v1.1 k hk).2.2.2
  simp only [] at q
  rw [← fv_n hk] at q
  exact va_tb C.1 C.2.1 q g7 hi rfl hd (k' p e s m args below meth c ρ0 z0 mc ms C ρ H locs cells slots ls g1 g2 g3 g4 (sc_co (by trivial) (sc_tl (sc_tl g5))) g6 g7 g8 g9)
theorem g_comp {index : Nat} (hd : decode M.2.1 pc = .ok (.getstatic index, 3)) (hl : Cond.fieldLink M.1 index "java/lang/String" "COMPACT_STRINGS" "Z" ∈ a_w0) (k' : G K M d bc bs (pc + 3) L (.int 1 :: S) h Q) : G K M d bc bs pc L S h Q := by
  intro p e s m args below meth c ρ0 z0 mc ms C ρ H locs cells slots ls g1 g2 g3 g4 g5 g6 g7 g8 g9
  obtain ⟨-, -, -, -, -, -, -, -, -, -, -, -, -, v1, v2, v3, -⟩ := C.2.2.2.2.2.2.2.2.2.1
  exact va_gets C.1 C.2.1 v2 g7 C.2.2.2.1 (C.2.2.2.2.2.1 _ hl) (fun _ q => q) hd (k' p e s m args below meth c ρ0 z0 mc ms C ρ H locs cells slots ls g1 g2 g3 g4 (sc_co (by trivial) g5) g6 g7 g8 g9)
theorem g_sio {index : Nat} (hd : decode M.2.1 pc = .ok (.getstatic index, 3)) (hl : Cond.fieldLink M.1 index "jdk/internal/util/Preconditions" "SIOOBE_FORMATTER" "Ljava/util/function/BiFunction;" ∈ a_w0) (k1 : G K M d bc bs (pc + 3) L (.null :: S) h Q) (k2 : G K M d bc bs (pc + 3) L (.float 300 :: S) h Q) : G K M d bc bs pc L S h Q := by
  intro p e s m args below meth c ρ0 z0 mc ms C ρ H locs cells slots ls g1 g2 g3 g4 g5 g6 g7 g8 g9
  obtain ⟨-, -, -, -, -, -, -, -, -, -, -, -, -, v1, v2, v3, -⟩ := C.2.2.2.2.2.2.2.2.2.1
  rcases v3 with v3 | v3
  · exact va_gets C.1 C.2.1 v3 g7 C.2.2.2.1 (C.2.2.2.2.2.1 _ hl) (fun _ q => q) hd (k1 p e s m args below meth c ρ0 z0 mc ms C ρ H locs cells slots ls g1 g2 g3 g4 (sc_co (by trivial) g5) g6 g7 g8 g9)
  · exact va_gets C.1 C.2.1 v3 g7 C.2.2.2.1 (C.2.2.2.2.2.1 _ hl) (fun _ q => q) hd (k2 p e s m args below meth c ρ0 z0 mc ms C ρ H locs cells slots ls g1 g2 g3 g4 (sc_co (by trivial) g5) g6 g7 g8 g9)
theorem g_i2c {x v : Int32} (hd : decode M.2.1 pc = .ok (.i2c, 1)) (hv : (x.toUInt32 % 65536).toInt32 = v) (k : G K M d bc bs (pc + 1) L (.int v :: S) h Q) : G K M d bc bs pc L (.int x :: S) h Q :=
  g_s (fun _ h1 => sc_co (by trivial) (sc_tl h1)) (fun p l e R s m args below meth c H locs cells slots Qw ls ρ hx hb hl w => lv_i2c hx hb hd hv w) k
theorem g_nret {v : Int32} {ty : FieldType} (hd : decode M.2.1 pc = .ok (.ireturn, 1)) (hr : M.2.2.2.1 = some ty) (hv : narrow ty (.int v) = .int v) (q : Q (.inl (some (.int v))) h) : G K M d bc bs pc L [.int v] h Q := by
  intro p e s m args below meth c ρ0 z0 mc ms C ρ H locs cells slots ls h1 h2 h3 h4 h5 h6 h7 h8 h9
  refine vx_ret (W.widen (k := mc) (n := ms) (by omega) (by omega) ?_)
  exact W.zret (v := v) C.1 C.2.1 (C.2.2.2.2.1.trans hr) hv (fun t ht _ => ⟨some (.int v), ρ, h, rfl, by rw [ht]; exact h1, h2, h3, fun x hx => by cases hx; trivial, h7.F ht, q⟩) h7.2.2 hd C.2.2.2.2.2.2.1
theorem g_ldcw {index : Nat} {v : Int32} (hd : decode M.2.1 pc = .ok (.ldc_w index, 3)) (hw : Cond.constant M.1 index v ∈ a_w0) (k : G K M d bc bs (pc + 3) L (.int v :: S) h Q) : G K M d bc bs pc L S h Q := by
  intro p e s m args below meth c ρ0 z0 mc ms C ρ H locs cells slots ls h1 h2 h3 h4 h5 h6 h7 h8 h9
  intro T hT X
  obtain ⟨t, a1, b1⟩ := k p e s m args below meth c ρ0 z0 mc ms C ρ H locs cells slots ls h1 h2 h3 h4 (sc_co (by trivial) h5) h6 h7 h8 h9 T hT X
  exact ⟨t, X.ldcwInt C.1 C.2.2.2.1 (C.2.2.2.2.2.1 _ hw) (g := F0 m pc ls (S.map (a_tr K ρ))) rfl (by rw [C.2.1]; exact hd) t a1, b1⟩
theorem g_invf {index j : Nat} (hd : decode M.2.1 pc = .ok (.invokevirtual index, 3)) (hl : a_lv M.1 index M' av.length) (hlaw : M'.2.2.2.2.1.name ≠ "law") (hS : S = av.reverse ++ .float (fw j) :: rest) (hj : j < 19) (hcl : M'.2.2.2.2.1.cls = "java/lang/String") (hc : (rest.map fun v => v.category).sum ≤ 8) (hav : ∀ v ∈ av, v.category = 1) (hbc : bc' ≤ bc) (hbs : bs' ≤ bs)
    (k : Run K M' d bc' bs' (.float (fw j) :: av) h (a_nx K M (d + 1) (bc - bc') (bs - bs') pc L rest Q)) : G K M (d + 1) bc bs pc L S h Q := by
  intro p e s m args below meth c ρ0 z0 mc ms C ρ H locs cells slots ls h1 h2 h3 h4 h5 h6 h7 h8 h9
  obtain ⟨l1, l2, l8, l3, l4, l5, l6, l7⟩ := hl
  subst hS
  have ht := C.2.2.2.2.2.1
  have hcat : ((rest.map (a_tr K ρ)).map fun v => v.category).sum ≤ 8 := by
    rw [List.map_map, show ((fun v => v.category) ∘ a_tr K ρ) = fun v : Value => v.category from funext fun v => a_tr_cat K ρ v]; exact hc
  refine a_after C h2 h3 h4 (fun v hv => h5 v (List.mem_append_right _ (List.mem_cons_of_mem _ hv))) h6 h7 h8 h9 hbc hbs (arr := ((.ref (K.2.2.2.1 (fw j).toNat) : Value) :: av.map (a_tr K ρ)).toArray) ?_
  obtain ⟨-, -, -, -, -, -, -, -, -, -, -, -, -, v1, v2, v3, -⟩ := C.2.2.2.2.2.2.2.2.2.1
  have hrecv := vk_recv v1 hj h7
  rw [← fw_n hj, ← hcl] at hrecv
  exact vx_runV (C := M'.2.2.2.2.1.cls) (b := K.2.2.2.1 (fw j).toNat) (As := av.map (a_tr K ρ)) (bytes := M'.2.1) (maxL := M'.2.2.1) (ret := M'.2.2.2.1) (n := av.length) ⟨C.1, C.2.1, C.2.2.1, C.2.2.2.1, ht⟩ (k ρ) (cwV (ws' := a_w0) av.length ht (fun w hw => by
      unfold wsV at hw
      rcases List.mem_append.mp hw with hw | hw
      · rcases List.mem_cons.mp hw with rfl | hw
        · exact a_w0_good _ l1
        · rcases List.mem_cons.mp hw with rfl | hw
          · exact a_w0_good _ l2
          · rcases List.mem_cons.mp hw with rfl | hw
            · exact a_w0_good _ l8
            · rcases List.mem_cons.mp hw with rfl | hw
              · exact a_w0_good _ l5
              · cases hw
      · exact a_good l3 w hw) (by rw [a_cw_of l4]) rfl rfl ⟨rfl, l7⟩ ⟨Nat.le_refl _, by show 8 + (M'.2.2.1 + 11) + 64 * d ≤ 64 * (d + 1); omega⟩) ⟨a_blind, hrecv, a_preS (av := .float (fw j) :: av) C h1 h7 (fun v hv => by
        rcases List.mem_cons.mp hv with rfl | hv
        · trivial
        · exact a_sl_of (h5 v (List.mem_append_left _ (List.mem_reverse.mpr hv))) (hav v hv)) hlaw⟩ rfl (by rw [List.length_map]) (h6.1) (by
    show (av.reverse ++ .float (fw j) :: rest).map (a_tr K ρ) = _
    rw [List.map_append, List.map_reverse]; rfl) (lv_room hcat) hd ⟨show cells + bc' ≤ mc by omega, show slots + bs' ≤ ms by omega⟩
theorem g_cvf {v : Option Value} {index j : Nat} {h' : aH} (hd : decode M.2.1 pc = .ok (.invokevirtual index, 3)) {nn : Nat} (hl : a_lv M.1 index M' nn) (hlaw : M'.2.2.2.2.1.name ≠ "law") (hcl : M'.2.2.2.2.1.cls = "java/lang/String") (hj : j < 19) (sp : Sp K M' (d - 1) bc' bs' (.float (fw j) :: av) h v h') (hn : av.length = nn) (hS : S = av.reverse ++ .float (fw j) :: rest) (hc : (rest.map fun v => v.category).sum ≤ 8) (hav : ∀ v ∈ av, v.category = 1) (h1 : 1 ≤ d) (hbc : bc' ≤ bc) (hbs : bs' ≤ bs)
    (k : G K M d (bc - bc') (bs - bs') (pc + 3) L (v.toList ++ rest) h' Q) : G K M d bc bs pc L S h Q := by
  subst hn
  obtain ⟨d, rfl⟩ : ∃ e, d = e + 1 := ⟨d - 1, by omega⟩
  exact g_invf hd hl hlaw hS hj hcl hc hav hbc hbs (sp _ k)
end
theorem s_Scod {K : aK} {d bc bs : Nat} {h : aH} {k : Nat} (hk : k < 19) : Sp K M_Scod d bc bs [.float (fw k)] h (some (.int 0)) h := by
  refine sp_of ok_Scod rfl (Nat.le_of_ble_eq_true rfl) (by simp [Value.category]) (fun Q hq => ?_)
  refine g_comp k_Scod_0 sw_657 ?_
  refine g_if_eq (tgt := 13) k_Scod_3 (by decide) (fun c => absurd c (by decide)) (fun _ => ?_)
  refine g_aload_nF k_Scod_6 rfl rfl ?_
  refine g_scod k_Scod_7 sw_2042 hk ?_
  refine g_goto (tgt := 14) k_Scod_10 (by decide) ?_
  exact g_nret k_Scod_14 rfl rfl hq
theorem s_Slat {K : aK} {d bc bs : Nat} {h : aH} {k : Nat} (hk : k < 19) : Sp K M_Slat d bc bs [.float (fw k)] h (some (.int 1)) h := by
  refine sp_of ok_Slat rfl (Nat.le_of_ble_eq_true rfl) (by simp [Value.category]) (fun Q hq => ?_)
  refine g_comp k_Slat_0 sw_657 ?_
  refine g_if_eq (tgt := 17) k_Slat_3 (by decide) (fun c => absurd c (by decide)) (fun _ => ?_)
  refine g_aload_nF k_Slat_6 rfl rfl ?_
  refine g_scod k_Slat_7 sw_2042 hk ?_
  refine g_if_ne (tgt := 17) k_Slat_10 (by decide) (fun _ => ?_) (fun c => absurd rfl c)
  refine g_iconst (v := 1) k_Slat_13 rfl ?_
  refine g_goto (tgt := 18) k_Slat_14 (by decide) ?_
  exact g_zret k_Slat_18 rfl (Or.inr rfl) hq
theorem sLen_shr : ∀ k, k < 19 → sLen k >>> ((0 : Int32) &&& 31) = sLen k := by decide +kernel
theorem s_Slen {K : aK} {d bc bs : Nat} {h : aH} {k : Nat} (hk : k < 19) (hd : 1 ≤ d) : Sp K M_Slen d bc bs [.float (fw k)] h (some (.int (sLen k))) h := by
  refine sp_of ok_Slen rfl (Nat.le_of_ble_eq_true rfl) (by simp [Value.category]) (fun Q hq => ?_)
  refine g_aload_nF k_Slen_0 rfl rfl ?_
  refine g_sval k_Slen_1 sw_2041 hk ?_
  refine g_svlen k_Slen_4 hk ?_
  refine g_aload_nF k_Slen_5 rfl rfl ?_
  refine g_cvf (av := []) k_Slen_6 lv_S_335 (by decide +kernel) rfl hk (s_Scod (bc := 0) (bs := 0) hk) rfl rfl (Nat.le_of_ble_eq_true rfl) (by simp [Value.category]) (by omega) (by omega) (by omega) ?_
  refine g_ishr k_Slen_9 ?_
  refine g_iret k_Slen_10 rfl ?_
  rw [sLen_shr k hk]
  exact hq
theorem s_Pchk {K : aK} {d bc bs : Nat} {h : aH} {i n : Int32} {v : Value} (hv : v.category = 1) (h0 : ¬ i < 0) (h1 : i < n) : Sp K M_Pchk d bc bs [.int i, .int n, v] h (some (.int i)) h := by
  refine sp_of ok_Pchk rfl (Nat.le_of_ble_eq_true rfl) (by intro w hw; simp only [List.mem_cons, List.not_mem_nil, or_false] at hw; rcases hw with rfl | rfl | rfl <;> first | rfl | exact hv) (fun Q hq => ?_)
  refine g_iload_n k_Pchk_0 rfl rfl ?_
  refine g_if_lt (tgt := 9) k_Pchk_1 (by decide) (fun c => absurd c h0) (fun _ => ?_)
  refine g_iload_n k_Pchk_4 rfl rfl ?_
  refine g_iload_n k_Pchk_5 rfl rfl ?_
  refine g_icmp_lt (tgt := 16) k_Pchk_6 (by decide) (fun _ => ?_) (fun c => absurd h1 c)
  refine g_iload_n k_Pchk_16 rfl rfl ?_
  exact g_iret k_Pchk_17 rfl hq
theorem s_Schk {K : aK} {d bc bs : Nat} {h : aH} {i n : Int32} (h0 : ¬ i < 0) (h1 : i < n) (hd : 1 ≤ d) : Sp K M_Schk d bc bs [.int i, .int n] h none h := by
  refine sp_of ok_Schk rfl (Nat.le_of_ble_eq_true rfl) (by simp [Value.category]) (fun Q hq => ?_)
  refine g_iload_n k_Schk_0 rfl rfl ?_
  refine g_iload_n k_Schk_1 rfl rfl ?_
  refine g_sio k_Schk_2 sw_673 ?_ ?_
  · refine g_cs k_Schk_5 ls_S_1059 (by decide +kernel) (s_Pchk (bc := 0) (bs := 0) (v := .null) rfl h0 h1) rfl rfl (Nat.le_of_ble_eq_true rfl) (by simp [Value.category]) (by omega) (by omega) (by omega) ?_
    refine g_pop k_Schk_8 rfl ?_
    exact g_vret k_Schk_9 rfl hq
  · refine g_cs k_Schk_5 ls_S_1059 (by decide +kernel) (s_Pchk (bc := 0) (bs := 0) (v := .float 300) rfl h0 h1) rfl rfl (Nat.le_of_ble_eq_true rfl) (by simp [Value.category]) (by omega) (by omega) (by omega) ?_
    refine g_pop k_Schk_8 rfl ?_
    exact g_vret k_Schk_9 rfl hq
theorem sCh_n (x : Int32) : narrow .char (.int (x &&& 255)) = .int (x &&& 255) := by
  show Value.int _ = Value.int _
  congr 1
  obtain ⟨j, hj, e⟩ := pk_andE x (m := 255) 8 (by decide)
  rw [e]
  exact lg_i2c_small (by rw [nI_toInt (by omega)]; omega) (by rw [nI_toInt (by omega)]; omega)
theorem sCh_c (x : Int32) : ((x &&& 255).toUInt32 % 65536).toInt32 = x &&& 255 := by
  obtain ⟨j, hj, e⟩ := pk_andE x (m := 255) 8 (by decide)
  rw [e]
  exact lg_i2c_word (by rw [nI_toInt (by omega)]; omega) (by rw [nI_toInt (by omega)]; omega)
theorem sLen_lt : ∀ k, k < 19 → a_len.getD k 0 < 100 := by decide +kernel
theorem s_Lchr {K : aK} {d bc bs : Nat} {h : aH} {k : Nat} {i : Int32} (hk : k < 19) (hi : vp_in i (a_len.getD k 0)) (hd : 2 ≤ d) : Sp K M_Lchr d bc bs [.float (fv k), .int i] h (some (.int (sCh k i.toNatClampNeg))) h := by
  have hl := sLen_lt k hk
  have hi' := vp_in_iff.mp hi
  refine sp_of ok_Lchr rfl (Nat.le_of_ble_eq_true rfl) (by simp [Value.category]) (fun Q hq => ?_)
  refine g_iload_n k_Lchr_0 rfl rfl ?_
  refine g_aload_nF k_Lchr_1 rfl rfl ?_
  refine g_svlen k_Lchr_2 hk ?_
  refine g_cs k_Lchr_3 ls_L_9 (by decide +kernel) (s_Schk (bc := 0) (bs := 0) (by rw [i_lt]; show ¬ i.toInt < 0; omega) (by rw [i_lt]; show i.toInt < (nI (a_len.getD k 0)).toInt; rw [nI_toInt (by omega)]; exact hi'.2) (by omega)) rfl rfl (Nat.le_of_ble_eq_true rfl) (by simp [Value.category]) (by omega) (by omega) (by omega) ?_
  refine g_aload_nF k_Lchr_6 rfl rfl ?_
  refine g_iload_n k_Lchr_7 rfl rfl ?_
  refine g_svld k_Lchr_8 hk hi ?_
  refine g_sipush (v := 255) k_Lchr_9 rfl ?_
  refine g_iand k_Lchr_12 ?_
  refine g_i2c k_Lchr_13 (sCh_c _) ?_
  exact g_nret k_Lchr_14 rfl (sCh_n _) hq
theorem s_Schr {K : aK} {d bc bs : Nat} {h : aH} {k : Nat} {i : Int32} (hk : k < 19) (hi : vp_in i (a_len.getD k 0)) (hd : 3 ≤ d) : Sp K M_Schr d bc bs [.float (fw k), .int i] h (some (.int (sCh k i.toNatClampNeg))) h := by
  refine sp_of ok_Schr rfl (Nat.le_of_ble_eq_true rfl) (by simp [Value.category]) (fun Q hq => ?_)
  refine g_aload_nF k_Schr_0 rfl rfl ?_
  refine g_cvf (av := []) k_Schr_1 lv_S_492 (by decide +kernel) rfl hk (s_Slat (bc := 0) (bs := 0) hk) rfl rfl (Nat.le_of_ble_eq_true rfl) (by simp [Value.category]) (by omega) (by omega) (by omega) ?_
  refine g_if_eq (tgt := 16) k_Schr_4 (by decide) (fun c => absurd c (by decide)) (fun _ => ?_)
  refine g_aload_nF k_Schr_7 rfl rfl ?_
  refine g_sval k_Schr_8 sw_2041 hk ?_
  refine g_iload_n k_Schr_11 rfl rfl ?_
  refine g_cs k_Schr_12 ls_S_495 (by decide +kernel) (s_Lchr (bc := 0) (bs := 0) hk hi (by omega)) rfl rfl (Nat.le_of_ble_eq_true rfl) (by simp [Value.category]) (by omega) (by omega) (by omega) ?_
  exact g_nret k_Schr_15 rfl (sCh_n _) hq
