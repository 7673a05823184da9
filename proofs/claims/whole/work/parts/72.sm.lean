/-! CALLS: forms, small ones -/
def AgP (m m2 : aM) : Prop := (m2 29 7 = m 29 7 + 1 ∨ ∀ b j, (b = 29 ∧ (j = 5 ∨ j = 6 ∨ j = 7)) ∨ (30 ≤ b ∧ b ≤ 34) → m2 b j = m b j) ∧ ∀ b j, 8692 ≤ b → m2 b j = m b j
def ZX (cs : List String) (fl : aM → Option (oX × aM)) (fm : aM → Option (Int32 × aM)) (m : aM) : Prop := ∃ r m1, fl m = some (r, m1) ∧ ∃ v m2, fm m1 = some (v, m2) ∧ Co cs r v (m2 242 0) ∧ Iv m2 ∧ AgP m m2
def ZN (fl : aM → Option (Int32 × aM)) (fm : aM → Option (Int32 × aM)) (m : aM) : Prop := ∃ r m1, fl m = some (r, m1) ∧ ∃ m2, fm m1 = some (r, m2) ∧ Iv m2 ∧ AgP m m2
def sc0 : Nat → Nat → Prop := fun b j => (10 ≤ b ∧ b ≤ 20) ∨ (24 ≤ b ∧ b ≤ 28) ∨ (39 ≤ b ∧ b ≤ 41) ∨ (b = 242 ∧ (j = 0 ∨ j = 2 ∨ (13 ≤ j ∧ j ≤ 21))) ∨ (247 ≤ b ∧ b ≤ 252) ∨ (255 ≤ b ∧ b ≤ 257) ∨ (259 ≤ b ∧ b ≤ 8451) ∨ (8471 ≤ b ∧ b ≤ 8472)
theorem Iv.f0 {m m' : aM} (h : Iv m) (f : Fr sc0 m m') : Iv m' ∧ AgP m m' := ⟨h.fr (f.mono (fun b j hb => by unfold sc0 at hb; unfold sc; omega)), Or.inr (fun b j hb => f b j (by unfold sc0; omega)), fun b j hb => f b j (by unfold sc0; omega)⟩
theorem bm32 {x : Int} (h1 : -2147483648 ≤ x) (h2 : x < 2147483648) : x.bmod 4294967296 = x := Int.bmod_eq_of_le (by omega) (by omega)
theorem i_sub {x y : Int32} (h1 : -2147483648 ≤ x.toInt - y.toInt) (h2 : x.toInt - y.toInt < 2147483648) : (x - y).toInt = x.toInt - y.toInt := by
  rw [Int32.toInt_sub]
  exact bm32 h1 h2
theorem i_add {x y : Int32} (h1 : -2147483648 ≤ x.toInt + y.toInt) (h2 : x.toInt + y.toInt < 2147483648) : (x + y).toInt = x.toInt + y.toInt := by
  rw [Int32.toInt_add]
  exact bm32 h1 h2
theorem z_letter (x : Int32) (m : aM) : f_Led_checkLetter x m = some (if 0 ≤ x ∧ x ≤ 3 then .inl 0 else .inr IAE) := by
  unfold f_Led_checkLetter
  rw [z_range]
  by_cases c : (0 : Int32) ≤ x ∧ x ≤ 3
  · rw [if_pos c, o_tp_inl]
  · rw [if_neg c, o_tp_inr]
/-- a number in a range is one of few -/
theorem rng_nat {x : Int32} {n : Nat} {y : Int32} (hy : y = nI n) (hn : n < 2 ^ 31) (h : 0 ≤ x ∧ x ≤ y) : ∃ l, l ≤ n ∧ x = nI l := by
  subst hy
  obtain ⟨l, h1, rfl⟩ := nI_of (x := x) (by have := h.1; rw [i_le] at this; rw [i_lt]; omega)
  exact ⟨l, (nI_leI h1 hn).mp h.2, rfl⟩
def q4 (x1 x2 x3 x4 : Int32) : Nat → Int32 := fun j => if j = 0 then x1 else if j = 1 then x2 else if j = 2 then x3 else x4
def fl4 (m : aM) (a : Nat) (x1 x2 x3 x4 : Int32) : aM := a_st (a_st (a_st (a_st m a 0 x1) a 1 x2) a 2 x3) a 3 x4
theorem fl4_at {m : aM} {a : Nat} {x1 x2 x3 x4 : Int32} {j : Nat} (h : j < 4) : fl4 m a x1 x2 x3 x4 a j = q4 x1 x2 x3 x4 j := by
  unfold fl4 q4
  match j, h with
  | 0, _ => simp [a_rd]
  | 1, _ => simp [a_rd]
  | 2, _ => simp [a_rd]
  | 3, _ => simp [a_rd]
theorem fl4_fr {m : aM} {a : Nat} {x1 x2 x3 x4 : Int32} : Fr (fun b j => b = a ∧ j < 4) m (fl4 m a x1 x2 x3 x4) := (((Fr.rf.st ⟨rfl, by omega⟩).st ⟨rfl, by omega⟩).st ⟨rfl, by omega⟩).st ⟨rfl, by omega⟩
theorem z_fill {m : aM} {a : Nat} {x1 x2 x3 x4 : Int32} : f_Led_fill a x1 x2 x3 x4 m = some (0, fl4 m a x1 x2 x3 x4) := rfl
/-- the reference's tests of what is asked, passed -/
theorem z_bad0 {m : aM} {w : Int32} : f_Mod_bad 0 w (a_st m 242 0 0) = some (0, a_st m 242 0 0) := by
  rw [z_bad]
  simp [a_rd]
theorem z_bad1 {m : aM} {w : Int32} (hw : w ≠ 0) : f_Mod_bad 1 w (a_st m 242 0 0) = some (1, a_st m 242 0 w) := by
  rw [z_bad]
  simp [a_rd, hw, a_st_st]
theorem LC.ds {m : aM} {st : lS} (h : LC m st) : ∃ u, DS 2 m st u := h.1
theorem th_fr {m : aM} {w : Int32} : Fr sc0 m (a_st m 242 0 w) := Fr.rf.st (by simp [sc0])
/-- see -/
theorem z_see (x1 x2 x3 x4 x5 : Int32) (F : Nat) (m : aM) (hF : 5000 ≤ F) (h : Iv m) : ZX [IAE] (f_Led_see F x1 x2 x3 x4 x5) (f_Mod_see F x1 x2 x3 x4 x5) m := by
  unfold ZX f_Led_see f_Mod_see b_Mod_see_21
  simp only [z_letter, o_let_eq, z_in, o_b_some]
  by_cases c : (0 : Int32) ≤ x5 ∧ x5 ≤ 3
  · obtain ⟨l, l3, rfl⟩ := rng_nat (n := 3) rfl (by decide) c
    obtain ⟨st, hL⟩ := h.2.2.1
    have l1 : LC (fl4 m 39 x1 x2 x3 x4) st := hL.fr (fun b j hb => fl4_fr b j (by unfold fL at hb; omega))
    obtain ⟨u, ds⟩ := l1.1
    obtain ⟨m6, e6, h6, f6⟩ := c_toNew (F := F) (a1 := 39) (a2 := 40) ds (by omega) (by omega) (by omega) (by omega)
    simp only [if_pos c, o_t_inl, z_fill, o_b2_some, e6, inb_nI (show l < 4 by omega) (by decide), o_gd_t, nI_clamp (show l < 2 ^ 31 by omega), show ¬ (1 : Int32) = 0 by decide, if_false]
    refine ⟨_, _, rfl, ?_⟩
    simp only [z_bad0, o_b2_some, if_true]
    have fc : Fr sc0 m m6 := (fl4_fr.mono (fun b j hb => by unfold sc0; omega)).tr (f6.mono (fun b j hb => by unfold sc0; omega))
    have e7 : a_st (a_st (a_st (a_st (a_st m6 242 0 0) 249 0 x1) 249 1 x2) 249 2 x3) 249 3 x4 = fl4 (a_st m6 242 0 0) 249 x1 x2 x3 x4 := rfl
    rw [e7]
    have fd : Fr sc0 m (fl4 (a_st m6 242 0 0) 249 x1 x2 x3 x4) := (fc.tr th_fr).tr (fl4_fr.mono (fun b j hb => by unfold sc0; omega))
    have l2 : LC (fl4 (a_st m6 242 0 0) 249 x1 x2 x3 x4) st := hL.fr (fun b j hb => fd b j (by unfold fL at hb; unfold sc0; omega))
    obtain ⟨m8, e8, h8, f8⟩ := m_sees (F := F) l2.2 hF
    have fe : Fr sc0 m m8 := fd.tr (f8.mono (fun b j hb => by unfold fV at hb; unfold sc0; omega))
    simp only [e8, o_b2_some]
    refine ⟨_, _, rfl, ⟨?_, ?_⟩, (h.f0 fe).1, (h.f0 fe).2⟩
    · rw [f8 242 0 (by simp [fV]), fl4_fr 242 0 (by simp), a_st_self]
    · rw [h6 l (by omega), h8 l (by omega)]
      exact sN_cg hL.2 (by omega) (fun j hj => by rw [fl4_at hj, fl4_at hj])
  · simp only [if_neg c, o_t_inr]
    refine ⟨_, _, rfl, ?_⟩
    simp only [if_true, z_bad1 (show (1 : Int32) ≠ 0 by decide), o_b2_some, show ¬ (1 : Int32) = 0 by decide, if_false]
    exact ⟨_, _, rfl, ⟨0, rfl, a_st_self⟩, (h.f0 th_fr).1, (h.f0 th_fr).2⟩
/-- put -/
theorem m_put_l {F : Nat} {st : lS} {x6 : Int32} : ∀ (d i N : Nat) (x5 : Int32) (m : aM), i + d = 4 → d < N → ML m st → (∀ j, j < i → m 249 j = sK st j (fun _ => x5)) → ∃ m', ll_Mod_put_62 F N x5 x6 (nI i) m = (o_b2 (f_Mod_puts F m') fun _ m2 => o_gd (inb x6 4) <| some (m2 252 x6.toNatClampNeg, m2)) ∧ (∀ j, j < 4 → m' 249 j = sK st j (fun _ => x5)) ∧ Fr (fun b _ => b = 249) m m'
  | 0, i, N, x5, m, hd, hN, hL, h => by
    obtain ⟨N, rfl⟩ : ∃ k, N = k + 1 := ⟨N - 1, by omega⟩
    obtain rfl : i = 4 := by omega
    exact ⟨m, rfl, h, Fr.rf⟩
  | d + 1, i, N, x5, m, hd, hN, hL, h => by
    obtain ⟨N, rfl⟩ : ∃ k, N = k + 1 := ⟨N - 1, by omega⟩
    obtain ⟨m', e, h1, f1⟩ := m_put_l (F := F) (x6 := x6) d (i + 1) N x5 (a_st m 249 i (sK st i (fun _ => x5))) (by omega) (by omega) (hL.fr (fun b j hb => by rw [a_st_ne (by unfold fL at hb; omega)])) (fun j hj => by
      by_cases c : j = i
      · rw [c, a_st_self]
      · rw [a_st_no (by omega)]; exact h j (by omega))
    refine ⟨m', ?_, h1, Fr.sto f1 rfl⟩
    show lb_Mod_put_62 F (ll_Mod_put_62 F N) x5 x6 (nI i) m = _
    unfold lb_Mod_put_62 b_Mod_put_89
    simp only [if_neg (show ¬ (4 : Int32) ≤ nI i from nI_ge (b := 4) (by omega) (by decide)), m_isKept hL (show i < 4 by omega), o_b_some, inb_nI (show i < 4 by omega) (by decide), o_gd_t, o_let_eq, nI_clamp (show i < 2 ^ 31 by omega), nI_1]
    rw [← e]
    unfold sK
    by_cases c : st.2.1 i = true
    · simp only [if_pos c, show ¬ (1 : Int32) = 0 by decide, if_false]
    · simp only [if_neg c, if_true]
theorem z_put (x1 x2 x3 x4 x5 x6 : Int32) (F : Nat) (m : aM) (hF : 5000 ≤ F) (h : Iv m) : ZX [IAE] (f_Led_put F x1 x2 x3 x4 x5 x6) (f_Mod_put F x1 x2 x3 x4 x5 x6) m := by
  unfold ZX f_Led_put f_Mod_put b_Mod_put_21
  simp only [z_letter, o_let_eq, z_in, o_b_some]
  by_cases c : (0 : Int32) ≤ x6 ∧ x6 ≤ 3
  · obtain ⟨l, l3, rfl⟩ := rng_nat (n := 3) rfl (by decide) c
    obtain ⟨st, hL⟩ := h.2.2.1
    have f1 : Fr sc0 m (fl4 (fl4 m 40 x1 x2 x3 x4) 39 x5 x5 x5 x5) := (fl4_fr.mono (fun b j hb => by unfold sc0; omega)).tr (fl4_fr.mono (fun b j hb => by unfold sc0; omega))
    have l1 : LC (fl4 (fl4 m 40 x1 x2 x3 x4) 39 x5 x5 x5 x5) st := hL.fr (fun b j hb => f1 b j (by unfold fL at hb; unfold sc0; omega))
    obtain ⟨u, ds⟩ := l1.1
    obtain ⟨m8, e8, h8, f8⟩ := c_toBeside (F := F) (a1 := 39) (a2 := 41) ds (by omega) (by omega) (by omega)
    obtain ⟨m10, e10, h10, f10⟩ := c_toOld (F := F) (a1 := 40) (a2 := 41) (a3 := 39) (ds.st (fun b j b1 b2 => f8 b j (by omega))) (by omega) (by omega) (by omega) (by omega) (by omega) (by omega)
    simp only [if_pos c, o_t_inl, z_fill, o_b2_some, e8, e10, inb_nI (show l < 4 by omega) (by decide), o_gd_t, nI_clamp (show l < 2 ^ 31 by omega), show ¬ (1 : Int32) = 0 by decide, if_false]
    refine ⟨_, _, rfl, ?_⟩
    simp only [z_bad0, o_b2_some, if_true]
    have fc : Fr sc0 m m10 := (f1.tr (f8.mono (fun b j hb => by unfold sc0; omega))).tr (f10.mono (fun b j hb => by unfold sc0; omega))
    have e7 : a_st (a_st (a_st (a_st (a_st m10 242 0 0) 250 0 x1) 250 1 x2) 250 2 x3) 250 3 x4 = fl4 (a_st m10 242 0 0) 250 x1 x2 x3 x4 := rfl
    rw [e7]
    have fd : Fr sc0 m (fl4 (a_st m10 242 0 0) 250 x1 x2 x3 x4) := (fc.tr th_fr).tr (fl4_fr.mono (fun b j hb => by unfold sc0; omega))
    have l2 : LC (fl4 (a_st m10 242 0 0) 250 x1 x2 x3 x4) st := hL.fr (fun b j hb => fd b j (by unfold fL at hb; unfold sc0; omega))
    obtain ⟨m11, e11, h11, f11⟩ := m_put_l (F := F) (st := st) (x6 := nI l) 4 0 F x5 (fl4 (a_st m10 242 0 0) 250 x1 x2 x3 x4) (by omega) (by omega) l2.2 (fun j hj => by omega)
    have l3 : LC m11 st := l2.fr (fun b j hb => f11 b j (by unfold fL at hb; omega))
    obtain ⟨m12, e12, h12, f12⟩ := m_puts (F := F) l3.2 hF
    have fe : Fr sc0 m m12 := (fd.tr (f11.mono (fun b j hb => by unfold sc0; omega))).tr (f12.mono (fun b j hb => by unfold fV at hb; unfold sc0; omega))
    rw [show ll_Mod_put_62 F F x5 (nI l) 0 (fl4 (a_st m10 242 0 0) 250 x1 x2 x3 x4) = _ from e11, e12, o_b2_some, inb_nI (show l < 4 by omega) (by decide), o_gd_t, nI_clamp (by omega)]
    refine ⟨_, _, rfl, ⟨?_, ?_⟩, (h.f0 fe).1, (h.f0 fe).2⟩
    · rw [f12 242 0 (by simp [fV]), f11 242 0 (by simp), fl4_fr 242 0 (by simp), a_st_self]
    · rw [h10 l (by omega), h12 l (by omega)]
      refine sO_cg hL.2 (by omega) (fun j hj => ?_) (fun j hj => ?_)
      · rw [h8 j hj, h11 j hj]
        unfold sK
        rw [fl4_at hj]
        unfold q4
        simp
      · rw [f8 40 j (by omega), fl4_fr 40 j (by omega), fl4_at hj, f11 250 j (by simp), fl4_at hj]
  · simp only [if_neg c, o_t_inr]
    refine ⟨_, _, rfl, ?_⟩
    simp only [if_true, z_bad1 (show (1 : Int32) ≠ 0 by decide), o_b2_some, show ¬ (1 : Int32) = 0 by decide, if_false]
    exact ⟨_, _, rfl, ⟨0, rfl, a_st_self⟩, (h.f0 th_fr).1, (h.f0 th_fr).2⟩
/-- fault -/
theorem z_fault (m : aM) (h : Iv m) : ZN (fun m => (f_Led_fault m).map (fun r => (r, m))) f_Mod_fault m := by
  refine ⟨m 0 4, m, rfl, a_st m 242 0 0, ?_, (h.f0 th_fr).1, (h.f0 th_fr).2⟩
  unfold f_Mod_fault
  rw [o_let_eq, a_st_no (by decide), h.2.1]
