/-! CALLS: box, asked, still -/
theorem Iv.bx {m m2 : aM} (h : Iv m) (f : Fr (fun b j => b = 22 ∨ b = 23 ∨ b = 253 ∨ b = 254 ∨ (b = 242 ∧ j = 0)) m m2) (hb : iB m2) : Iv m2 ∧ AgP m m2 := by
  obtain ⟨a1, a2, a3, a4, a5, a6, a7⟩ := h
  exact ⟨⟨a1.fr (fun b j hb => f b j (by omega)), a2.fr (fun b j hb => f b j (by omega)), a3.fr (fun b j hb => f b j (by unfold fL at hb; omega)), hb, a5.fr (fun b j hb => f b j (by omega)), a6.fr (fun b j hb => f b j (by omega)), a7.fr (fun b j hb => f b j (by omega))⟩, Or.inr (fun b j hb => f b j (by omega)), fun b j hb => f b j (by omega)⟩
theorem z_boxI (x1 x2 x3 : Int32) (m : aM) (h : Iv m) : ZX [IAE] (f_Led_box x1 x2 x3) (f_Mod_box x1 x2 x3) m := by
  unfold ZX f_Led_box f_Mod_box b_Mod_box_39 b_Mod_box_44 b_Mod_box_66
  simp only [z_letter, z_range, z_in, o_let_eq, o_b_some]
  have m999 : (-999 : Int32).toInt = -999 := rfl
  have p999 : (999 : Int32).toInt = 999 := rfl
  have no : ∀ (A : Option (Int32 × aM)), A = some (0, a_st m 242 0 1) → ∃ v m2, A = some (v, m2) ∧ Co [IAE] (.inr IAE) v (m2 242 0) ∧ Iv m2 ∧ AgP m m2 := fun A e => ⟨_, _, e, ⟨0, rfl, a_st_self⟩, (h.f0 th_fr).1, (h.f0 th_fr).2⟩
  have nb : (o_b2 (f_Mod_bad 1 1 (a_st m 242 0 0)) fun y1 m2 => if y1 = 0 then (if x3 ≤ x2 + 7 then (o_b2 (f_Mod_bad 0 1 m2) fun y1 m2 => if y1 = 0 then (o_gd (inb x1 4) <| o_gd (inb x1 4) <| some ((0 : Int32), a_st (a_st m2 253 x1.toNatClampNeg x2) 254 x1.toNatClampNeg x3)) else some (0, m2)) else (o_b2 (f_Mod_bad 1 1 m2) fun y1 m2 => if y1 = 0 then (o_gd (inb x1 4) <| o_gd (inb x1 4) <| some (0, a_st (a_st m2 253 x1.toNatClampNeg x2) 254 x1.toNatClampNeg x3)) else some (0, m2))) else some (0, m2)) = some (0, a_st m 242 0 1) := by
    simp only [z_bad1 (show (1 : Int32) ≠ 0 by decide), o_b2_some, show ¬ (1 : Int32) = 0 by decide, if_false]
  by_cases c1 : (0 : Int32) ≤ x1 ∧ x1 ≤ 3
  case neg =>
    simp only [if_neg c1, o_t_inr]
    refine ⟨_, _, rfl, ?_⟩
    simp only [if_true]
    exact no _ nb
  obtain ⟨l, l3, rfl⟩ := rng_nat (n := 3) rfl (by decide) c1
  simp only [if_pos c1, o_t_inl, show ¬ (1 : Int32) = 0 by decide, if_false]
  by_cases c2 : (-999 : Int32) ≤ x2 ∧ x2 ≤ 999
  case neg =>
    simp only [if_neg c2, o_t_inr]
    refine ⟨_, _, rfl, ?_⟩
    simp only [if_true]
    exact no _ nb
  have b2 := bd_of c2
  rw [m999, p999] at b2
  obtain ⟨b21, b22⟩ := b2
  simp only [if_pos c2, o_t_inl, show ¬ (1 : Int32) = 0 by decide, if_false]
  by_cases c3 : (-999 : Int32) ≤ x3 ∧ x3 ≤ 999
  case neg =>
    simp only [if_neg c3, o_t_inr]
    refine ⟨_, _, rfl, ?_⟩
    have c3' : ¬ (x2 ≤ x3 ∧ x3 ≤ 999) := fun z => c3 ⟨by have := z.1; rw [i_le] at this ⊢; omega, z.2⟩
    simp only [if_neg c3', if_true]
    exact no _ nb
  have b3 := bd_of c3
  rw [m999, p999] at b3
  obtain ⟨b31, b32⟩ := b3
  simp only [if_pos c3, o_t_inl]
  have es : (x3 - x2).toInt = x3.toInt - x2.toInt := i_sub (by omega) (by omega)
  have ea : (x2 + 7).toInt = x2.toInt + 7 := by
    have := i_add (x := x2) (y := 7) (by have : (7 : Int32).toInt = 7 := rfl; omega) (by have : (7 : Int32).toInt = 7 := rfl; omega)
    rw [this]; rfl
  have z0 : (0 : Int32).toInt = 0 := rfl
  have z7 : (7 : Int32).toInt = 7 := rfl
  by_cases c4 : (0 : Int32) ≤ x3 - x2 ∧ x3 - x2 ≤ 7
  case neg =>
    simp only [if_neg c4, o_t_inr]
    refine ⟨_, _, rfl, ?_⟩
    by_cases d : x2 ≤ x3 ∧ x3 ≤ 999
    · have d7 : ¬ x3 ≤ x2 + 7 := fun z => c4 (by
        have := d.1
        rw [i_le] at this z
        rw [i_le, i_le, es]
        omega)
      simp only [if_pos d, show ¬ (1 : Int32) = 0 by decide, if_false, z_bad0, o_b2_some, if_true, if_neg d7, z_bad1 (show (1 : Int32) ≠ 0 by decide)]
      exact no _ rfl
    · simp only [if_neg d, if_true]
      exact no _ nb
  have c41 := c4.1
  have c42 := c4.2
  rw [i_le, es, z0] at c41
  rw [i_le, es, z7] at c42
  have d : x2 ≤ x3 ∧ x3 ≤ 999 := ⟨by rw [i_le]; omega, c3.2⟩
  have d7 : x3 ≤ x2 + 7 := by rw [i_le, ea]; omega
  simp only [if_pos c4, o_t_inl]
  unfold f_Box_bound
  simp only [if_neg (nI_pos (show l < 2 ^ 31 by omega)), if_neg (show ¬ (4 : Int32) ≤ nI l from nI_ge (b := 4) (by omega) (by decide)), inb_nI (show l < 4 by omega) (by decide), o_gd_t, o_let_eq, nI_clamp (show l < 2 ^ 31 by omega), o_b2_some]
  refine ⟨_, _, rfl, ?_⟩
  simp only [if_pos d, show ¬ (1 : Int32) = 0 by decide, if_false, z_bad0, o_b2_some, if_true, if_pos d7]
  generalize hm : a_st (a_st (a_st (a_st (a_st m 22 l x2) 23 l x3) 242 0 0) 253 l x2) 254 l x3 = m2
  have rd : ∀ b j, m2 b j = if b = 254 ∧ j = l then x3 else if b = 253 ∧ j = l then x2 else if b = 242 ∧ j = 0 then 0 else if b = 23 ∧ j = l then x3 else if b = 22 ∧ j = l then x2 else m b j := fun b j => by rw [← hm]; simp only [a_rd]
  have fr : Fr (fun b j => b = 22 ∨ b = 23 ∨ b = 253 ∨ b = 254 ∨ (b = 242 ∧ j = 0)) m m2 := fun b j hb => by rw [rd, if_neg (by omega), if_neg (by omega), if_neg (by omega), if_neg (by omega), if_neg (by omega)]
  have iv := h.bx fr (fun j hj => by
    by_cases c : j = l
    · subst c
      have q1 : m2 22 j = x2 := by rw [rd, if_neg (by omega), if_neg (by omega), if_neg (by omega), if_neg (by omega), if_pos (by omega)]
      have q2 : m2 23 j = x3 := by rw [rd, if_neg (by omega), if_neg (by omega), if_neg (by omega), if_pos (by omega)]
      have q3 : m2 253 j = x2 := by rw [rd, if_neg (by omega), if_pos (by omega)]
      have q4 : m2 254 j = x3 := by rw [rd, if_pos (by omega)]
      rw [q1, q2, q3, q4]
      exact ⟨rfl, rfl, by omega, by omega, by omega, by omega⟩
    · have q : ∀ b, b = 22 ∨ b = 23 ∨ b = 253 ∨ b = 254 → m2 b j = m b j := fun b hb => by rw [rd, if_neg (by omega), if_neg (by omega), if_neg (by omega), if_neg (by omega), if_neg (by omega)]
      rw [q 22 (by omega), q 23 (by omega), q 253 (by omega), q 254 (by omega)]
      exact h.2.2.2.1 j hj)
  exact ⟨_, _, rfl, ⟨by rw [rd, if_neg (by omega), if_neg (by omega), if_pos (by omega)], rfl⟩, iv.1, iv.2⟩
theorem z_slot {p f l w : Nat} {x : Int32} {m : aM} (hp : p < 8) (hf : f < 2) (hl : l < 4) (hw : x = 0 ∧ w = 0 ∨ ¬ x = 0 ∧ w = 1) : f_Ask_slot (nI p) (nI f) (nI l) x m = some (nI (16 * p + 8 * f + 2 * l + w)) := by
  unfold f_Ask_slot b_Ask_slot_20
  have e : ((nI p * 2 + nI f) * 4 + nI l) * 2 = nI (16 * p + 8 * f + 2 * l) := by
    rw [show (2 : Int32) = nI 2 from rfl, show (4 : Int32) = nI 4 from rfl, pk_mul, nI_add, pk_mul, nI_add, pk_mul, show ((p * 2 + f) * 4 + l) * 2 = 16 * p + 8 * f + 2 * l by omega]
  have lt : ∀ k, k < 128 → (¬ nI k < 0 ∧ ¬ (128 : Int32) ≤ nI k) := fun k hk => ⟨nI_pos (by omega), nI_ge (b := 128) hk (by decide)⟩
  simp only [o_let_eq, e]
  rcases hw with ⟨h0, rfl⟩ | ⟨h0, rfl⟩
  · simp only [if_pos h0, show nI (16 * p + 8 * f + 2 * l) + 0 = nI (16 * p + 8 * f + 2 * l + 0) from nI_add _ 0, if_neg (lt (16 * p + 8 * f + 2 * l + 0) (by omega)).1, if_neg (lt (16 * p + 8 * f + 2 * l + 0) (by omega)).2]
  · simp only [if_neg h0, nI_1, if_neg (lt (16 * p + 8 * f + 2 * l + 1) (by omega)).1, if_neg (lt (16 * p + 8 * f + 2 * l + 1) (by omega)).2]
theorem z_latest {p f l w : Nat} {x : Int32} {m : aM} (hp : p < 8) (hf : f < 2) (hl : l < 4) (hw : x = 0 ∧ w = 0 ∨ ¬ x = 0 ∧ w = 1) : f_Ask_latest (nI p) (nI f) (nI l) x m = some (m 36 (16 * p + 8 * f + 2 * l + w)) := by
  unfold f_Ask_latest
  rw [z_slot hp hf hl hw, o_b_some, inb_nI (show 16 * p + 8 * f + 2 * l + w < 128 by omega) (by decide), o_gd_t, nI_clamp (by omega)]
theorem z_checkAsked (x0 x1 x2 : Int32) (m : aM) : f_Led_checkAsked x0 x1 x2 m = some (if (0 ≤ x0 ∧ x0 ≤ 7) ∧ (0 ≤ x1 ∧ x1 ≤ 1) ∧ (0 ≤ x2 ∧ x2 ≤ 3) then .inl 0 else .inr IAE) := by
  unfold f_Led_checkAsked
  simp only [z_range, z_letter]
  by_cases c0 : (0 : Int32) ≤ x0 ∧ x0 ≤ 7 <;> by_cases c1 : (0 : Int32) ≤ x1 ∧ x1 ≤ 1 <;> by_cases c2 : (0 : Int32) ≤ x2 ∧ x2 ≤ 3 <;> simp [c0, c1, c2, o_tp_inl, o_tp_inr]
