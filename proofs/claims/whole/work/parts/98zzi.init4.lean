/-! THE FIRST MEMORY 4: the chain of the reference (made by wip/gen/modinit.py) -/
def zQ (m : aM) (z : Nat) : Prop := ∀ b j, 243 ≤ b → b < z → m b j = 0
def zA (m : aM) : Prop := ∀ b j, 243 ≤ b → m b j = 0
theorem zQ.zr {m : aM} {z : Nat} (h : zQ m z) : zQ (a_zr m z) (z + 1) := fun b j h1 h2 => by
  by_cases c : b = z
  · rw [c]; exact zr_at
  · rw [zr_no c]; exact h b j h1 (by omega)
theorem zQ.zf {m : aM} {z : Nat} (h : zQ m z) : zA (a_zf m z) := fun b j h1 => by
  by_cases c : b < z
  · rw [zf_no c]; exact h b j h1 c
  · exact zf_at (by omega)
theorem zA.zr {m : aM} {z : Nat} (h : zA m) : zA (a_zr m z) := fun b j h1 => by
  by_cases c : b = z
  · rw [c]; exact zr_at
  · rw [zr_no c]; exact h b j h1
theorem zA.zf {m : aM} {z : Nat} (h : zA m) : zA (a_zf m z) := fun b j h1 => by
  by_cases c : b < z
  · rw [zf_no c]; exact h b j h1
  · exact zf_at (by omega)
theorem zA.st {m : aM} {i : Nat} {x : Int32} (h : zA m) : zA (a_st m 242 i x) := fun b j h1 => by rw [a_st_no (by omega)]; exact h b j h1
theorem zQ.st {m : aM} {i z : Nat} {x : Int32} (h : zQ m z) : zQ (a_st m 242 i x) z := fun b j h1 h2 => by rw [a_st_no (by omega)]; exact h b j h1 h2
theorem jM_37 (F : Nat) (m : aM) (h : zA m) : ∃ m37, fMi_37 F m = b_Mod_init_323 F m37 ∧ zA m37 ∧ ∀ b j, b ≤ 242 → m37 b j = m b j := by
  exact ⟨m, by unfold fMi_37; rfl, h, fun _ _ _ => rfl⟩
theorem jM_36 (F : Nat) (m : aM) (h : zA m) : ∃ m37, fMi_36 F m = b_Mod_init_323 F m37 ∧ zA m37 ∧ ∀ b j, b ≤ 242 → m37 b j = m b j := by
  obtain ⟨m37, e, h1, h2⟩ := jM_37 F (a_zf m 8667) h.zf
  refine ⟨m37, by unfold fMi_36; rw [o_let_eq]; exact e, h1, fun b j hb => ?_⟩
  rw [h2 b j hb, zf_no (by omega)]
theorem jM_35 (F : Nat) (m : aM) (h : zA m) : ∃ m37, fMi_35 F m = b_Mod_init_323 F m37 ∧ zA m37 ∧ ∀ b j, b ≤ 242 → m37 b j = m b j := by
  obtain ⟨m37, e, h1, h2⟩ := jM_36 F (a_zf m 8642) h.zf
  refine ⟨m37, by unfold fMi_35; rw [o_let_eq]; exact e, h1, fun b j hb => ?_⟩
  rw [h2 b j hb, zf_no (by omega)]
theorem jM_34 (F : Nat) (m : aM) (h : zA m) : ∃ m37, fMi_34 F m = b_Mod_init_323 F m37 ∧ zA m37 ∧ ∀ b j, b ≤ 242 → m37 b j = m b j := by
  obtain ⟨m37, e, h1, h2⟩ := jM_35 F (a_zf m 8601) h.zf
  refine ⟨m37, by unfold fMi_34; rw [o_let_eq]; exact e, h1, fun b j hb => ?_⟩
  rw [h2 b j hb, zf_no (by omega)]
theorem jM_33 (F : Nat) (m : aM) (h : zA m) : ∃ m37, fMi_33 F m = b_Mod_init_323 F m37 ∧ zA m37 ∧ ∀ b j, b ≤ 242 → m37 b j = m b j := by
  obtain ⟨m37, e, h1, h2⟩ := jM_34 F (a_zf m 8560) h.zf
  refine ⟨m37, by unfold fMi_33; rw [o_let_eq]; exact e, h1, fun b j hb => ?_⟩
  rw [h2 b j hb, zf_no (by omega)]
theorem jM_32 (F : Nat) (m : aM) (h : zA m) : ∃ m37, fMi_32 F m = b_Mod_init_323 F m37 ∧ zA m37 ∧ ∀ b j, b ≤ 242 → m37 b j = m b j := by
  obtain ⟨m37, e, h1, h2⟩ := jM_33 F (a_zf m 8519) h.zf
  refine ⟨m37, by unfold fMi_32; rw [o_let_eq]; exact e, h1, fun b j hb => ?_⟩
  rw [h2 b j hb, zf_no (by omega)]
theorem jM_31 (F : Nat) (m : aM) (h : zA m) : ∃ m37, fMi_31 F m = b_Mod_init_323 F m37 ∧ zA m37 ∧ ∀ b j, b ≤ 242 → m37 b j = m b j := by
  obtain ⟨m37, e, h1, h2⟩ := jM_32 F (a_zf m 8478) h.zf
  refine ⟨m37, by unfold fMi_31; rw [o_let_eq]; exact e, h1, fun b j hb => ?_⟩
  rw [h2 b j hb, zf_no (by omega)]
theorem jM_30 (F : Nat) (m : aM) (h : zA m) : ∃ m37, fMi_30 F m = b_Mod_init_323 F m37 ∧ zA m37 ∧ ∀ b j, b ≤ 242 → m37 b j = m b j := by
  obtain ⟨m37, e, h1, h2⟩ := jM_31 F (a_zr m 8477) h.zr
  refine ⟨m37, by unfold fMi_30; rw [o_let_eq]; exact e, h1, fun b j hb => ?_⟩
  rw [h2 b j hb, zr_no (by omega)]
theorem jM_29 (F : Nat) (m : aM) (h : zA m) : ∃ m37, fMi_29 F m = b_Mod_init_323 F m37 ∧ zA m37 ∧ ∀ b j, b ≤ 242 → m37 b j = m b j := by
  obtain ⟨m37, e, h1, h2⟩ := jM_30 F (a_zr m 8476) h.zr
  refine ⟨m37, by unfold fMi_29; rw [o_let_eq]; exact e, h1, fun b j hb => ?_⟩
  rw [h2 b j hb, zr_no (by omega)]
theorem jM_28 (F : Nat) (m : aM) (h : zA m) : ∃ m37, fMi_28 F m = b_Mod_init_323 F m37 ∧ zA m37 ∧ ∀ b j, b ≤ 242 → m37 b j = m b j := by
  obtain ⟨m37, e, h1, h2⟩ := jM_29 F (a_zr m 8475) h.zr
  refine ⟨m37, by unfold fMi_28; rw [o_let_eq]; exact e, h1, fun b j hb => ?_⟩
  rw [h2 b j hb, zr_no (by omega)]
theorem jM_27 (F : Nat) (m : aM) (h : zA m) : ∃ m37, fMi_27 F m = b_Mod_init_323 F m37 ∧ zA m37 ∧ ∀ b j, b ≤ 242 → m37 b j = m b j := by
  obtain ⟨m37, e, h1, h2⟩ := jM_28 F (a_zr m 8474) h.zr
  refine ⟨m37, by unfold fMi_27; rw [o_let_eq]; exact e, h1, fun b j hb => ?_⟩
  rw [h2 b j hb, zr_no (by omega)]
theorem jM_26 (F : Nat) (m : aM) (h : zA m) : ∃ m37, fMi_26 F m = b_Mod_init_323 F m37 ∧ zA m37 ∧ ∀ b j, b ≤ 242 → m37 b j = m b j := by
  obtain ⟨m37, e, h1, h2⟩ := jM_27 F (a_zr m 8473) h.zr
  refine ⟨m37, by unfold fMi_26; rw [o_let_eq]; exact e, h1, fun b j hb => ?_⟩
  rw [h2 b j hb, zr_no (by omega)]
theorem jM_25 (F : Nat) (m : aM) (h : zA m) : ∃ m37, fMi_25 F m = b_Mod_init_323 F m37 ∧ zA m37 ∧ ∀ b j, b ≤ 242 → m37 b j = (if b = 242 ∧ j = 48 then 10 else m b j) := by
  obtain ⟨m37, e, h1, h2⟩ := jM_26 F (a_st m 242 48 10) h.st
  refine ⟨m37, by unfold fMi_25; rw [o_let_eq]; exact e, h1, fun b j hb => ?_⟩
  rw [h2 b j hb]
  by_cases c : b = 242 ∧ j = 48
  · rw [if_pos c, c.1, c.2, a_st_self]
  · rw [if_neg c, a_st_no c]
theorem jM_24 (F : Nat) (m : aM) (h : zA m) : ∃ m37, fMi_24 F m = b_Mod_init_323 F m37 ∧ zA m37 ∧ ∀ b j, b ≤ 242 → m37 b j = (if b = 242 ∧ j = 48 then 10 else m b j) := by
  obtain ⟨m37, e, h1, h2⟩ := jM_25 F (a_zr m 8472) h.zr
  refine ⟨m37, by unfold fMi_24; rw [o_let_eq]; exact e, h1, fun b j hb => ?_⟩
  rw [h2 b j hb, zr_no (by omega)]
theorem jM_23 (F : Nat) (m : aM) (h : zA m) : ∃ m37, fMi_23 F m = b_Mod_init_323 F m37 ∧ zA m37 ∧ ∀ b j, b ≤ 242 → m37 b j = (if b = 242 ∧ j = 48 then 10 else m b j) := by
  obtain ⟨m37, e, h1, h2⟩ := jM_24 F (a_zr m 8471) h.zr
  refine ⟨m37, by unfold fMi_23; rw [o_let_eq]; exact e, h1, fun b j hb => ?_⟩
  rw [h2 b j hb, zr_no (by omega)]
theorem jM_22 (F : Nat) (m : aM) (h : zA m) : ∃ m37, fMi_22 F m = b_Mod_init_323 F m37 ∧ zA m37 ∧ ∀ b j, b ≤ 242 → m37 b j = (if b = 242 ∧ j = 48 then 10 else m b j) := by
  obtain ⟨m37, e, h1, h2⟩ := jM_23 F (a_zr m 8470) h.zr
  refine ⟨m37, by unfold fMi_22; rw [o_let_eq]; exact e, h1, fun b j hb => ?_⟩
  rw [h2 b j hb, zr_no (by omega)]
theorem jM_21 (F : Nat) (m : aM) (h : zA m) : ∃ m37, fMi_21 F m = b_Mod_init_323 F m37 ∧ zA m37 ∧ ∀ b j, b ≤ 242 → m37 b j = (if b = 242 ∧ j = 48 then 10 else m b j) := by
  obtain ⟨m37, e, h1, h2⟩ := jM_22 F (a_zf m 8466) h.zf
  refine ⟨m37, by unfold fMi_21; rw [o_let_eq]; exact e, h1, fun b j hb => ?_⟩
  rw [h2 b j hb, zf_no (by omega)]
theorem jM_20 (F : Nat) (m : aM) (h : zA m) : ∃ m37, fMi_20 F m = b_Mod_init_323 F m37 ∧ zA m37 ∧ ∀ b j, b ≤ 242 → m37 b j = (if b = 242 ∧ j = 48 then 10 else m b j) := by
  obtain ⟨m37, e, h1, h2⟩ := jM_21 F (a_zf m 8462) h.zf
  refine ⟨m37, by unfold fMi_20; rw [o_let_eq]; exact e, h1, fun b j hb => ?_⟩
  rw [h2 b j hb, zf_no (by omega)]
theorem jM_19 (F : Nat) (m : aM) (h : zA m) : ∃ m37, fMi_19 F m = b_Mod_init_323 F m37 ∧ zA m37 ∧ ∀ b j, b ≤ 242 → m37 b j = (if b = 242 ∧ j = 48 then 10 else m b j) := by
  obtain ⟨m37, e, h1, h2⟩ := jM_20 F (a_zf m 8456) h.zf
  refine ⟨m37, by unfold fMi_19; rw [o_let_eq]; exact e, h1, fun b j hb => ?_⟩
  rw [h2 b j hb, zf_no (by omega)]
theorem jM_18 (F : Nat) (m : aM) (h : zA m) : ∃ m37, fMi_18 F m = b_Mod_init_323 F m37 ∧ zA m37 ∧ ∀ b j, b ≤ 242 → m37 b j = (if b = 242 ∧ j = 48 then 10 else m b j) := by
  obtain ⟨m37, e, h1, h2⟩ := jM_19 F (a_zf m 8452) h.zf
  refine ⟨m37, by unfold fMi_18; rw [o_let_eq]; exact e, h1, fun b j hb => ?_⟩
  rw [h2 b j hb, zf_no (by omega)]
theorem jM_17 (F : Nat) (m : aM) (h : zA m) : ∃ m37, fMi_17 F m = b_Mod_init_323 F m37 ∧ zA m37 ∧ ∀ b j, b ≤ 242 → m37 b j = (if b = 242 ∧ j = 48 then 10 else m b j) := by
  obtain ⟨m37, e, h1, h2⟩ := jM_18 F (a_zr m 8451) h.zr
  refine ⟨m37, by unfold fMi_17; rw [o_let_eq]; exact e, h1, fun b j hb => ?_⟩
  rw [h2 b j hb, zr_no (by omega)]
theorem jM_16 (F : Nat) (m : aM) (h : zQ m 258) : ∃ m37, fMi_16 F m = b_Mod_init_323 F m37 ∧ zA m37 ∧ ∀ b j, b ≤ 242 → m37 b j = (if b = 242 ∧ j = 48 then 10 else m b j) := by
  obtain ⟨m37, e, h1, h2⟩ := jM_17 F (a_zf m 258) h.zf
  refine ⟨m37, by unfold fMi_16; rw [o_let_eq]; exact e, h1, fun b j hb => ?_⟩
  rw [h2 b j hb, zf_no (by omega)]
theorem jM_15 (F : Nat) (m : aM) (h : zQ m 257) : ∃ m37, fMi_15 F m = b_Mod_init_323 F m37 ∧ zA m37 ∧ ∀ b j, b ≤ 242 → m37 b j = (if b = 242 ∧ j = 48 then 10 else m b j) := by
  obtain ⟨m37, e, h1, h2⟩ := jM_16 F (a_zr m 257) h.zr
  refine ⟨m37, by unfold fMi_15; rw [o_let_eq]; exact e, h1, fun b j hb => ?_⟩
  rw [h2 b j hb, zr_no (by omega)]
theorem jM_14 (F : Nat) (m : aM) (h : zQ m 256) : ∃ m37, fMi_14 F m = b_Mod_init_323 F m37 ∧ zA m37 ∧ ∀ b j, b ≤ 242 → m37 b j = (if b = 242 ∧ j = 48 then 10 else m b j) := by
  obtain ⟨m37, e, h1, h2⟩ := jM_15 F (a_zr m 256) h.zr
  refine ⟨m37, by unfold fMi_14; rw [o_let_eq]; exact e, h1, fun b j hb => ?_⟩
  rw [h2 b j hb, zr_no (by omega)]
theorem jM_13 (F : Nat) (m : aM) (h : zQ m 255) : ∃ m37, fMi_13 F m = b_Mod_init_323 F m37 ∧ zA m37 ∧ ∀ b j, b ≤ 242 → m37 b j = (if b = 242 ∧ j = 48 then 10 else m b j) := by
  obtain ⟨m37, e, h1, h2⟩ := jM_14 F (a_zr m 255) h.zr
  refine ⟨m37, by unfold fMi_13; rw [o_let_eq]; exact e, h1, fun b j hb => ?_⟩
  rw [h2 b j hb, zr_no (by omega)]
theorem jM_12 (F : Nat) (m : aM) (h : zQ m 254) : ∃ m37, fMi_12 F m = b_Mod_init_323 F m37 ∧ zA m37 ∧ ∀ b j, b ≤ 242 → m37 b j = (if b = 242 ∧ j = 48 then 10 else m b j) := by
  obtain ⟨m37, e, h1, h2⟩ := jM_13 F (a_zr m 254) h.zr
  refine ⟨m37, by unfold fMi_12; rw [o_let_eq]; exact e, h1, fun b j hb => ?_⟩
  rw [h2 b j hb, zr_no (by omega)]
theorem jM_11 (F : Nat) (m : aM) (h : zQ m 253) : ∃ m37, fMi_11 F m = b_Mod_init_323 F m37 ∧ zA m37 ∧ ∀ b j, b ≤ 242 → m37 b j = (if b = 242 ∧ j = 48 then 10 else m b j) := by
  obtain ⟨m37, e, h1, h2⟩ := jM_12 F (a_zr m 253) h.zr
  refine ⟨m37, by unfold fMi_11; rw [o_let_eq]; exact e, h1, fun b j hb => ?_⟩
  rw [h2 b j hb, zr_no (by omega)]
theorem jM_10 (F : Nat) (m : aM) (h : zQ m 252) : ∃ m37, fMi_10 F m = b_Mod_init_323 F m37 ∧ zA m37 ∧ ∀ b j, b ≤ 242 → m37 b j = (if b = 242 ∧ j = 48 then 10 else m b j) := by
  obtain ⟨m37, e, h1, h2⟩ := jM_11 F (a_zr m 252) h.zr
  refine ⟨m37, by unfold fMi_10; rw [o_let_eq]; exact e, h1, fun b j hb => ?_⟩
  rw [h2 b j hb, zr_no (by omega)]
theorem jM_9 (F : Nat) (m : aM) (h : zQ m 251) : ∃ m37, fMi_9 F m = b_Mod_init_323 F m37 ∧ zA m37 ∧ ∀ b j, b ≤ 242 → m37 b j = (if b = 242 ∧ j = 48 then 10 else m b j) := by
  obtain ⟨m37, e, h1, h2⟩ := jM_10 F (a_zr m 251) h.zr
  refine ⟨m37, by unfold fMi_9; rw [o_let_eq]; exact e, h1, fun b j hb => ?_⟩
  rw [h2 b j hb, zr_no (by omega)]
theorem jM_8 (F : Nat) (m : aM) (h : zQ m 250) : ∃ m37, fMi_8 F m = b_Mod_init_323 F m37 ∧ zA m37 ∧ ∀ b j, b ≤ 242 → m37 b j = (if b = 242 ∧ j = 48 then 10 else m b j) := by
  obtain ⟨m37, e, h1, h2⟩ := jM_9 F (a_zr m 250) h.zr
  refine ⟨m37, by unfold fMi_8; rw [o_let_eq]; exact e, h1, fun b j hb => ?_⟩
  rw [h2 b j hb, zr_no (by omega)]
theorem jM_7 (F : Nat) (m : aM) (h : zQ m 249) : ∃ m37, fMi_7 F m = b_Mod_init_323 F m37 ∧ zA m37 ∧ ∀ b j, b ≤ 242 → m37 b j = (if b = 242 ∧ j = 48 then 10 else m b j) := by
  obtain ⟨m37, e, h1, h2⟩ := jM_8 F (a_zr m 249) h.zr
  refine ⟨m37, by unfold fMi_7; rw [o_let_eq]; exact e, h1, fun b j hb => ?_⟩
  rw [h2 b j hb, zr_no (by omega)]
theorem jM_6 (F : Nat) (m : aM) (h : zQ m 248) : ∃ m37, fMi_6 F m = b_Mod_init_323 F m37 ∧ zA m37 ∧ ∀ b j, b ≤ 242 → m37 b j = (if b = 242 ∧ j = 48 then 10 else m b j) := by
  obtain ⟨m37, e, h1, h2⟩ := jM_7 F (a_zr m 248) h.zr
  refine ⟨m37, by unfold fMi_6; rw [o_let_eq]; exact e, h1, fun b j hb => ?_⟩
  rw [h2 b j hb, zr_no (by omega)]
theorem jM_5 (F : Nat) (m : aM) (h : zQ m 247) : ∃ m37, fMi_5 F m = b_Mod_init_323 F m37 ∧ zA m37 ∧ ∀ b j, b ≤ 242 → m37 b j = (if b = 242 ∧ j = 48 then 10 else m b j) := by
  obtain ⟨m37, e, h1, h2⟩ := jM_6 F (a_zr m 247) h.zr
  refine ⟨m37, by unfold fMi_5; rw [o_let_eq]; exact e, h1, fun b j hb => ?_⟩
  rw [h2 b j hb, zr_no (by omega)]
theorem jM_4 (F : Nat) (m : aM) (h : zQ m 246) : ∃ m37, fMi_4 F m = b_Mod_init_323 F m37 ∧ zA m37 ∧ ∀ b j, b ≤ 242 → m37 b j = (if b = 242 ∧ j = 48 then 10 else m b j) := by
  obtain ⟨m37, e, h1, h2⟩ := jM_5 F (a_zr m 246) h.zr
  refine ⟨m37, by unfold fMi_4; rw [o_let_eq]; exact e, h1, fun b j hb => ?_⟩
  rw [h2 b j hb, zr_no (by omega)]
theorem jM_3 (F : Nat) (m : aM) (h : zQ m 245) : ∃ m37, fMi_3 F m = b_Mod_init_323 F m37 ∧ zA m37 ∧ ∀ b j, b ≤ 242 → m37 b j = (if b = 242 ∧ j = 48 then 10 else m b j) := by
  obtain ⟨m37, e, h1, h2⟩ := jM_4 F (a_zr m 245) h.zr
  refine ⟨m37, by unfold fMi_3; rw [o_let_eq]; exact e, h1, fun b j hb => ?_⟩
  rw [h2 b j hb, zr_no (by omega)]
theorem jM_2 (F : Nat) (m : aM) (h : zQ m 244) : ∃ m37, fMi_2 F m = b_Mod_init_323 F m37 ∧ zA m37 ∧ ∀ b j, b ≤ 242 → m37 b j = (if b = 242 ∧ j = 48 then 10 else m b j) := by
  obtain ⟨m37, e, h1, h2⟩ := jM_3 F (a_zr m 244) h.zr
  refine ⟨m37, by unfold fMi_2; rw [o_let_eq]; exact e, h1, fun b j hb => ?_⟩
  rw [h2 b j hb, zr_no (by omega)]
theorem jM_1 (F : Nat) (m : aM) (h : zQ m 243) : ∃ m37, fMi_1 F m = b_Mod_init_323 F m37 ∧ zA m37 ∧ ∀ b j, b ≤ 242 → m37 b j = (if b = 242 ∧ j = 48 then 10 else m b j) := by
  obtain ⟨m37, e, h1, h2⟩ := jM_2 F (a_zr m 243) h.zr
  refine ⟨m37, by unfold fMi_1; rw [o_let_eq]; exact e, h1, fun b j hb => ?_⟩
  rw [h2 b j hb, zr_no (by omega)]
theorem jM_0 (F : Nat) (m : aM) (h : zQ m 243) : ∃ m37, fMi_0 F m = b_Mod_init_323 F m37 ∧ zA m37 ∧ ∀ b j, b ≤ 242 → m37 b j = (if b = 242 ∧ j = 5 then -1 else if b = 242 ∧ j = 48 then 10 else m b j) := by
  obtain ⟨m37, e, h1, h2⟩ := jM_1 F (a_st m 242 5 (-1)) h.st
  refine ⟨m37, by unfold fMi_0; rw [o_let_eq]; exact e, h1, fun b j hb => ?_⟩
  rw [h2 b j hb]
  by_cases c : b = 242 ∧ j = 5
  · rw [if_neg (by omega), if_pos c, c.1, c.2, a_st_self]
  · rw [if_neg c, a_st_no c]
theorem i_mod {F : Nat} (hF : 20000 ≤ F) (m : aM) : ∃ m', f_Mod_init F m = some (0, m') ∧ (∀ b j, b ≤ 242 → m' b j = if b = 242 ∧ j = 5 then -1 else if b = 242 ∧ j = 48 then 10 else m b j) ∧ (∀ q f l, q < 8 → f < 2 → l < 4 → m' (8644 + 3 * q + f) l = -1 ∧ m' (8669 + 3 * q + f) l = -1) ∧ (∀ q s, q < 3 → s < 5 → m' (8453 + q) s = nI (s + 1)) ∧ (∀ j, j < 5 → m' 8470 j = 5) ∧ ∀ b j, 243 ≤ b → ¬ (b = 8470 ∨ 8453 ≤ b ∧ b < 8456 ∨ 8602 ≤ b) → m' b j = 0 := by
  obtain ⟨m37, e, h1, h2⟩ := jM_0 F m (fun b j h1 h2 => by omega)
  obtain ⟨m1, m', e1, e2, f1⟩ := j_325 hF 40 0 F m37 (by omega) (by omega)
  obtain ⟨m'', e3, k1, k2, k3, f2⟩ := j_357 hF 8 0 F m1 (by omega) (by omega)
  obtain rfl : m'' = m' := by
    have := e3.symm.trans e2
    exact congrArg Prod.snd (Option.some.inj this)
  refine ⟨m'', by unfold b_Mod_init_323 at e; exact e.trans e1, fun b j hb => ?_, fun q f l hq hf hl => k1 q f l (by omega) hq hf hl, k2, k3, fun b j hb n => ?_⟩
  · rw [f2 _ _ (by omega), f1 _ _ (by omega), h2 b j hb]
  · rw [f2 _ _ (by omega), f1 _ _ (by omega)]
    exact h1 b j hb
def m_z0 : aM := fun _ _ => 0
theorem i_all {F : Nat} (hF : 20000 ≤ F) : ∃ w0 m1 w1 m2, f_Led_init F (a_zr m_z0 0) = some (w0, m1) ∧ f_Mod_init F (a_zr m1 242) = some (w1, m2) ∧ Iv (a_zr m2 8692) ∧ a_zr m2 8692 29 7 = nI 1 := by
  obtain ⟨m1, e1, a1, a2, a3, a4, ⟨p1, p2, p3, p4, p5, p6⟩, a6, a7, a8⟩ := i_led hF (a_zr m_z0 0) (fun j => zr_at)
  obtain ⟨m2, e2, b1, b2, b3, b4, b5⟩ := i_mod hF (a_zr m1 242)
  have lo : ∀ b j, b < 242 → a_zr m2 8692 b j = m1 b j := fun b j hb => by
    rw [zr_no (by omega), b1 b j (by omega), if_neg (by omega), if_neg (by omega), zr_no (by omega)]
  have fd : ∀ j, a_zr m2 8692 242 j = if j = 5 then -1 else if j = 48 then 10 else 0 := fun j => by
    rw [zr_no (by omega), b1 _ _ (Nat.le_refl _), zr_at]
    by_cases c : j = 5
    · rw [if_pos ⟨rfl, c⟩, if_pos c]
    · rw [if_neg (by omega), if_neg c]
      by_cases c2 : j = 48
      · rw [if_pos ⟨rfl, c2⟩, if_pos c2]
      · rw [if_neg (by omega), if_neg c2]
  have hi : ∀ b j, 243 ≤ b → b < 8692 → a_zr m2 8692 b j = m2 b j := fun b j h1 h2 => zr_no (by omega)
  have hz : ∀ b j, 243 ≤ b → b < 8602 → ¬ (b = 8470 ∨ 8453 ≤ b ∧ b < 8456) → a_zr m2 8692 b j = 0 := fun b j h1 h2 h3 => by
    rw [hi b j h1 (by omega)]
    exact b5 b j h1 (by omega)
  refine ⟨0, m1, 0, m2, e1, e2, ⟨?_, ?_, ?_, ?_, ?_, ?_, ?_⟩, ?_⟩
  · exact ⟨0, by omega, by rw [lo _ _ (by omega), a1]; rfl, by rw [fd]; rfl, fun j hj => by omega⟩
  · show a_zr m2 8692 0 4 = a_zr m2 8692 242 5
    rw [lo _ _ (by omega), a2, fd]
    rfl
  · refine ⟨stD, ⟨8, a3.gr ((lo _ _ (by omega)).trans a3.1) (Nat.le_refl _) a3.2.2.2.2.2.1 (fun j _ => ⟨lo _ _ (by omega), lo _ _ (by omega)⟩) (fun b j hb => lo _ _ (by omega))⟩, by rw [fd]; rfl, by rw [fd]; rfl, ⟨0, by rw [fd]; rfl, ?_⟩, by decide, Or.inl ⟨by rw [fd]; rfl, rfl⟩⟩
    exact ⟨by decide, fun l hl => by simp [stD]⟩
  · intro j hj
    rw [lo 22 j (by omega), lo 23 j (by omega), (a4 j).1, (a4 j).2, hz 253 j (by omega) (by omega) (by omega), hz 254 j (by omega) (by omega) (by omega)]
    decide
  · refine ⟨0, 0, by omega, by omega, by rw [lo _ _ (by omega), p1]; rfl, by rw [fd]; rfl, by rw [lo _ _ (by omega), p1]; rfl, by rw [fd]; rfl, fun a s ha hs => ?_, fun q a hq ha => ?_, fun q hq => ?_, fun a b ha hb => ?_, fun a b ha hb => ?_⟩
    · rw [lo _ _ (by omega), p2 _ (by omega), hi _ _ (by omega) (by omega), b3 a s ha hs, show (5 * a + s) % 5 = s by omega]
      refine ⟨rfl, ?_⟩
      unfold bd
      rw [nI_toInt (by omega)]
      omega
    · rw [lo _ _ (by omega), p3, hz _ _ (by omega) (by omega) (by omega)]
      exact ⟨rfl, by unfold bd; decide⟩
    · rw [lo _ _ (by omega), p4 q hq, hi _ _ (by omega) (by omega), b4 q hq]
      exact ⟨rfl, by unfold bd; decide⟩
    · rw [lo _ _ (by omega), p5, hz _ _ (by omega) (by omega) (by omega)]
      exact ⟨rfl, by decide, fun q => absurd q (by decide)⟩
    · rw [lo 34 _ (by omega), lo 34 _ (by omega), p6, p6, hz _ _ (by omega) (by omega) (by omega)]
      refine ⟨by decide, fun q => absurd q (by decide), ?_⟩
      by_cases c : a < b
      · rw [if_pos c]
      · rw [if_neg c]
        by_cases c2 : b < a
        · rw [if_pos c2]
        · rw [if_neg c2]
  · refine ⟨0, by omega, by rw [lo _ _ (by omega), a7]; rfl, fun p f l hp hf hl => ?_⟩
    obtain ⟨c1, c2⟩ := b2 p f l hp hf hl
    rw [lo 36 _ (by omega), lo 36 _ (by omega), a6 _ (by omega), a6 _ (by omega), hi _ _ (by omega) (by omega), hi _ _ (by omega) (by omega), c1, c2]
    refine ⟨rfl, rfl, fun w hw => ?_⟩
    rw [lo 36 _ (by omega), a6 _ (by omega)]
    unfold bd
    decide
  · refine ⟨0, 0, by omega, by omega, by rw [lo _ _ (by omega), a7]; rfl, by rw [fd]; rfl, by rw [lo _ _ (by omega), a7]; rfl, by rw [fd]; rfl, by rw [lo _ _ (by omega), a7, fd]; rfl, by rw [lo _ _ (by omega), a7]; rfl, by rw [lo _ _ (by omega), a7, fd]; rfl, by rw [lo _ _ (by omega), a7]; unfold bd; decide, by rw [lo _ _ (by omega), a7, fd]; rfl, by rw [lo _ _ (by omega), a7]; unfold bd; decide, fun k hk => ?_⟩
    obtain ⟨c1, c2⟩ := a8 k hk
    refine ⟨fun f hf => by rw [lo _ _ (by omega), c2]; rfl, Or.inl ⟨hz _ _ (by omega) (by omega) (by omega), by rw [lo _ _ (by omega), c1]⟩⟩
  · rw [lo _ _ (by omega), p1]
    rfl
