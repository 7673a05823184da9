/-! CALLS: asked, still; who asked the old form -/
def akB (m : aM) (p l : Nat) (x : Int32) : Bool := (!decide (m 36 (16 * p + 2 * l) = -1) && decide (x ≤ m 36 (16 * p + 2 * l))) || (!decide (m 36 (16 * p + 2 * l + 1) = -1) && decide (x ≤ m 36 (16 * p + 2 * l + 1)))
theorem iA.lo {m : aM} (h : iA m) {p l : Nat} (hp : p < 8) (hl : l < 4) : -1 ≤ (m 36 (16 * p + 2 * l)).toInt ∧ -1 ≤ (m 36 (16 * p + 2 * l + 1)).toInt ∧ m 36 (16 * p + 2 * l) = m (8644 + 3 * p + 0) l ∧ m 36 (16 * p + 2 * l + 1) = m (8669 + 3 * p + 0) l := by
  obtain ⟨t, _, _, h⟩ := h
  obtain ⟨h1, h2, h3⟩ := h p 0 l hp (by omega) hl
  exact ⟨(h3 0 (by omega)).1, (h3 1 (by omega)).1, h1, h2⟩
theorem m_askedFrom {m : aM} (h : iA m) {p l : Nat} {x : Int32} (hp : p < 8) (hl : l < 4) : f_Mod_isAskedFrom (nI p) (nI l) x m = some (if akB m p l x = true then 1 else 0) := by
  obtain ⟨_, _, h3, h4⟩ := h.lo hp hl
  unfold f_Mod_isAskedFrom b_Mod_isAskedFrom_28 akB
  simp only [inb_nI hp (by decide), inb_nI hl (by decide), o_gd_t, o_let_eq, nI_clamp (show p < 2 ^ 31 by omega), nI_clamp (show l < 2 ^ 31 by omega), ← h3, ← h4]
  generalize m 36 (16 * p + 2 * l) = r
  generalize m 36 (16 * p + 2 * l + 1) = w
  have k : w < x ↔ ¬ x ≤ w := by rw [i_lt, i_le]; omega
  by_cases c1 : r = -1 <;> by_cases c2 : x ≤ r <;> by_cases c3 : w = -1 <;> by_cases c4 : x ≤ w <;> simp [c1, c2, c3, c4, k]
theorem c_max {r w x : Int32} (h1 : -1 ≤ r.toInt) (h2 : -1 ≤ w.toInt) : (¬ (if r < w then w else r) = -1 ∧ ¬ (if r < w then w else r) < x) ↔ (¬ r = -1 ∧ x ≤ r ∨ ¬ w = -1 ∧ x ≤ w) := by
  have e : (-1 : Int32).toInt = -1 := rfl
  by_cases c : r < w
  · rw [if_pos c]
    rw [i_lt] at c
    simp only [i_eq, i_lt, i_le, e]
    omega
  · rw [if_neg c]
    rw [i_lt] at c
    simp only [i_eq, i_lt, i_le, e]
    omega
def oaS (m : aM) (l : Nat) (x : Int32) : Nat → Nat → Int32 → Int32
  | 0, _, b => b
  | d + 1, k, b => oaS m l x d (k + 1) (b ||| if akB m k l x = true then (1 : Int32) <<< (nI k &&& 31) else 0)
theorem c_old_l {F l : Nat} {x : Int32} {m : aM} (h : iA m) (hl : l < 4) : ∀ (d k N : Nat) (b : Int32), k + d = 8 → d < N → ll_Ask_oldAskers_5 F N (nI l) x b (nI k) m = some (oaS m l x d k b)
  | 0, k, N, b, hd, hN => by
    obtain ⟨N, rfl⟩ : ∃ k, N = k + 1 := ⟨N - 1, by omega⟩
    obtain rfl : k = 8 := by omega
    rfl
  | d + 1, k, N, b, hd, hN => by
    obtain ⟨N, rfl⟩ : ∃ k, N = k + 1 := ⟨N - 1, by omega⟩
    obtain ⟨h1, h2, _, _⟩ := h.lo (show k < 8 by omega) hl
    show lb_Ask_oldAskers_5 F (ll_Ask_oldAskers_5 F N) (nI l) x b (nI k) m = _
    unfold lb_Ask_oldAskers_5 b_Ask_oldAskers_55 b_Ask_oldAskers_56 oaS
    have e1 : f_Ask_latest (nI k) 0 (nI l) 0 m = some (m 36 (16 * k + 2 * l)) := z_latest (f := 0) (w := 0) (by omega) (by omega) hl (Or.inl ⟨rfl, rfl⟩)
    have e2 : f_Ask_latest (nI k) 0 (nI l) 1 m = some (m 36 (16 * k + 2 * l + 1)) := z_latest (f := 0) (w := 1) (by omega) (by omega) hl (Or.inr ⟨by decide, rfl⟩)
    simp only [if_neg (show ¬ (8 : Int32) ≤ nI k from nI_ge (b := 8) (by omega) (by decide)), e1, e2, o_b_some, o_let_eq, nI_1, c_old_l h hl d (k + 1) N _ (by omega) (by omega)]
    have mx := c_max (x := x) h1 h2
    have ak : akB m k l x = true ↔ (¬ m 36 (16 * k + 2 * l) = -1 ∧ x ≤ m 36 (16 * k + 2 * l) ∨ ¬ m 36 (16 * k + 2 * l + 1) = -1 ∧ x ≤ m 36 (16 * k + 2 * l + 1)) := by simp [akB]
    by_cases c1 : (if m 36 (16 * k + 2 * l) < m 36 (16 * k + 2 * l + 1) then m 36 (16 * k + 2 * l + 1) else m 36 (16 * k + 2 * l)) = -1
    · rw [if_pos c1, if_neg (fun z => (mx.mpr (ak.mp z)).1 c1)]
    · rw [if_neg c1]
      by_cases c2 : (if m 36 (16 * k + 2 * l) < m 36 (16 * k + 2 * l + 1) then m 36 (16 * k + 2 * l + 1) else m 36 (16 * k + 2 * l)) < x
      · rw [if_pos c2, if_neg (fun z => (mx.mpr (ak.mp z)).2 c2)]
      · rw [if_neg c2, if_pos (ak.mpr (mx.mp ⟨c1, c2⟩))]
theorem c_old {F l : Nat} {x : Int32} {m : aM} (h : iA m) (hl : l < 4) (hF : 10 ≤ F) : f_Ask_oldAskers F (nI l) x m = some (oaS m l x 8 0 0) := c_old_l h hl 8 0 F 0 (by omega) (by omega)
theorem m_still_l {F l : Nat} {x : Int32} {m : aM} (h : iA m) (hl : l < 4) : ∀ (d k N : Nat) (b : Int32), k + d = 8 → d < N → ll_Mod_still_34 F N (nI l) x b (nI k) m = some (oaS m l x d k b, m)
  | 0, k, N, b, hd, hN => by
    obtain ⟨N, rfl⟩ : ∃ k, N = k + 1 := ⟨N - 1, by omega⟩
    obtain rfl : k = 8 := by omega
    rfl
  | d + 1, k, N, b, hd, hN => by
    obtain ⟨N, rfl⟩ : ∃ k, N = k + 1 := ⟨N - 1, by omega⟩
    show lb_Mod_still_34 F (ll_Mod_still_34 F N) (nI l) x b (nI k) m = _
    unfold lb_Mod_still_34 b_Mod_still_61 oaS
    simp only [if_neg (show ¬ (8 : Int32) ≤ nI k from nI_ge (b := 8) (by omega) (by decide)), m_askedFrom h (show k < 8 by omega) hl, o_b_some, o_let_eq, nI_1, m_still_l h hl d (k + 1) N _ (by omega) (by omega)]
    by_cases c : akB m k l x = true
    · simp only [if_pos c, show ¬ (1 : Int32) = 0 by decide, if_false]
    · simp only [if_neg c, if_true]
theorem z_askedI (x1 x2 x3 x4 : Int32) (m : aM) (h : Iv m) : ZX [IAE] (fun m => (f_Led_asked x1 x2 x3 x4 m).map (fun r => (r, m))) (f_Mod_asked x1 x2 x3 x4) m := by
  unfold ZX f_Led_asked f_Mod_asked b_Mod_asked_34 b_Mod_asked_39
  simp only [z_checkAsked, z_in, o_let_eq, o_b_some]
  by_cases c : ((0 : Int32) ≤ x1 ∧ x1 ≤ 7) ∧ ((0 : Int32) ≤ x2 ∧ x2 ≤ 1) ∧ ((0 : Int32) ≤ x3 ∧ x3 ≤ 3)
  · obtain ⟨p, p7, rfl⟩ := rng_nat (n := 7) rfl (by decide) c.1
    obtain ⟨f, f1, rfl⟩ := rng_nat (n := 1) rfl (by decide) c.2.1
    obtain ⟨l, l3, rfl⟩ := rng_nat (n := 3) rfl (by decide) c.2.2
    obtain ⟨t, _, _, hA⟩ := h.2.2.2.2.2.1
    obtain ⟨a1, a2, _⟩ := hA p f l (by omega) (by omega) (by omega)
    have e1 : a_st m 242 0 0 (8644 + 3 * p + f) l = m (8644 + 3 * p + f) l := by rw [a_st_ne (by omega)]
    have e2 : a_st m 242 0 0 (8669 + 3 * p + f) l = m (8669 + 3 * p + f) l := by rw [a_st_ne (by omega)]
    simp only [if_pos c, o_tp_inl, if_pos c.1, if_pos c.2.1, if_pos c.2.2, show ¬ (1 : Int32) = 0 by decide, if_false]
    by_cases d : x4 = 0
    · rw [z_latest (w := 0) (show p < 8 by omega) (show f < 2 by omega) (show l < 4 by omega) (Or.inl ⟨d, rfl⟩)]
      refine ⟨_, _, rfl, ?_⟩
      simp only [z_bad0, o_b2_some, if_true, if_pos d, inb_nI (show p < 8 by omega) (by decide), inb_nI (show f < 2 by omega) (by decide), inb_nI (show l < 4 by omega) (by decide), o_gd_t, nI_clamp (show p < 2 ^ 31 by omega), nI_clamp (show f < 2 ^ 31 by omega), nI_clamp (show l < 2 ^ 31 by omega)]
      exact ⟨_, _, rfl, ⟨a_st_self, by rw [e1]; exact a1⟩, (h.f0 th_fr).1, (h.f0 th_fr).2⟩
    · rw [z_latest (w := 1) (show p < 8 by omega) (show f < 2 by omega) (show l < 4 by omega) (Or.inr ⟨d, rfl⟩)]
      refine ⟨_, _, rfl, ?_⟩
      simp only [z_bad0, o_b2_some, if_true, if_neg d, inb_nI (show p < 8 by omega) (by decide), inb_nI (show f < 2 by omega) (by decide), inb_nI (show l < 4 by omega) (by decide), o_gd_t, nI_clamp (show p < 2 ^ 31 by omega), nI_clamp (show f < 2 ^ 31 by omega), nI_clamp (show l < 2 ^ 31 by omega)]
      exact ⟨_, _, rfl, ⟨a_st_self, by rw [e2]; exact a2⟩, (h.f0 th_fr).1, (h.f0 th_fr).2⟩
  · simp only [if_neg c, o_tp_inr]
    refine ⟨_, _, rfl, ?_⟩
    have fin : ∀ A : Option (Int32 × aM), A = some (0, a_st m 242 0 1) → ∃ v m2, A = some (v, m2) ∧ Co [IAE] (.inr IAE) v (m2 242 0) ∧ Iv m2 ∧ AgP m m2 := fun A e => ⟨_, _, e, ⟨0, rfl, a_st_self⟩, (h.f0 th_fr).1, (h.f0 th_fr).2⟩
    refine fin _ ?_
    by_cases c0 : (0 : Int32) ≤ x1 ∧ x1 ≤ 7
    · by_cases c1 : (0 : Int32) ≤ x2 ∧ x2 ≤ 1
      · have c2 : ¬ ((0 : Int32) ≤ x3 ∧ x3 ≤ 3) := fun z => c ⟨c0, c1, z⟩
        simp only [if_pos c0, if_pos c1, if_neg c2, if_true, z_bad1 (show (1 : Int32) ≠ 0 by decide), o_b2_some, show ¬ (1 : Int32) = 0 by decide, if_false]
      · simp only [if_pos c0, if_neg c1, if_true, z_bad1 (show (1 : Int32) ≠ 0 by decide), o_b2_some, show ¬ (1 : Int32) = 0 by decide, if_false]
    · simp only [if_neg c0, if_true, z_bad1 (show (1 : Int32) ≠ 0 by decide), o_b2_some, show ¬ (1 : Int32) = 0 by decide, if_false]
theorem iA.th {m : aM} (h : iA m) {w : Int32} : iA (a_st m 242 0 w) := h.fr (fun b j hb => by rw [a_st_no (by omega)])
theorem oaS_th {m : aM} {w x : Int32} {l : Nat} : ∀ d k b, oaS (a_st m 242 0 w) l x d k b = oaS m l x d k b
  | 0, _, _ => rfl
  | d + 1, k, b => by
    unfold oaS
    rw [oaS_th d]
    unfold akB
    rw [a_st_ne (by decide)]
theorem z_stillI (x1 x2 : Int32) (F : Nat) (m : aM) (hF : 5000 ≤ F) (h : Iv m) : ZX [IAE] (fun m => (f_Led_still F x1 x2 m).map (fun r => (r, m))) (f_Mod_still F x1 x2) m := by
  unfold ZX f_Led_still f_Mod_still b_Mod_still_20
  simp only [z_letter, z_in, o_let_eq, o_b_some]
  by_cases c : (0 : Int32) ≤ x1 ∧ x1 ≤ 3
  · obtain ⟨l, l3, rfl⟩ := rng_nat (n := 3) rfl (by decide) c
    have hA := h.2.2.2.2.2.1
    simp only [if_pos c, o_tp_inl, c_old hA (show l < 4 by omega) (show 10 ≤ F by omega), o_b_some]
    refine ⟨_, _, rfl, ?_⟩
    simp only [show ¬ (1 : Int32) = 0 by decide, if_false, z_bad0, o_b2_some, if_true]
    rw [show ll_Mod_still_34 F F (nI l) x2 0 0 (a_st m 242 0 0) = _ from m_still_l hA.th (show l < 4 by omega) 8 0 F 0 (by omega) (by omega)]
    exact ⟨_, _, rfl, ⟨a_st_self, (oaS_th 8 0 0).symm⟩, (h.f0 th_fr).1, (h.f0 th_fr).2⟩
  · simp only [if_neg c, o_tp_inr]
    refine ⟨_, _, rfl, ?_⟩
    simp only [if_true, z_bad1 (show (1 : Int32) ≠ 0 by decide), o_b2_some, show ¬ (1 : Int32) = 0 by decide, if_false]
    exact ⟨_, _, rfl, ⟨0, rfl, a_st_self⟩, (h.f0 th_fr).1, (h.f0 th_fr).2⟩
/-- whether an old letter was asked at all -/
theorem or_0 {x y : Int32} : x ||| y = 0 ↔ x = 0 ∧ y = 0 := by
  refine ⟨fun h => ⟨b_ext fun i hi => ?_, b_ext fun i hi => ?_⟩, fun h => by rw [h.1, h.2]; rfl⟩
  · have := congrArg (fun z => bt z i) h
    simp only [b_or, b_0, Bool.or_eq_false_iff] at this
    rw [b_0]; exact this.1
  · have := congrArg (fun z => bt z i) h
    simp only [b_or, b_0, Bool.or_eq_false_iff] at this
    rw [b_0]; exact this.2
theorem sh_0 : ∀ k, k < 8 → ¬ ((1 : Int32) <<< (nI k &&& 31)) = 0 := by decide +kernel
theorem oaS_0 {m : aM} {l : Nat} {x : Int32} : ∀ d k b, k + d = 8 → (oaS m l x d k b = 0 ↔ b = 0 ∧ ∀ p, k ≤ p → p < 8 → ¬ akB m p l x = true)
  | 0, k, b, hd => ⟨fun h => ⟨h, fun p p1 p2 => by omega⟩, fun h => h.1⟩
  | d + 1, k, b, hd => by
    unfold oaS
    rw [oaS_0 d (k + 1) _ (by omega), or_0]
    by_cases c : akB m k l x = true
    · rw [if_pos c]
      exact ⟨fun h => absurd h.1.2 (sh_0 k (by omega)), fun h => absurd c (h.2 k (Nat.le_refl _) (by omega))⟩
    · rw [if_neg c]
      refine ⟨fun h => ⟨h.1.1, fun p p1 p2 => ?_⟩, fun h => ⟨⟨h.1, rfl⟩, fun p p1 p2 => h.2 p (by omega) p2⟩⟩
      by_cases e : p = k
      · rw [e]; exact c
      · exact h.2 p (by omega) p2
theorem c_isOld_l {F : Nat} {x : Int32} {m : aM} (h : iA m) (hF : 10 ≤ F) : ∀ (d l N : Nat), l + d = 4 → d < N → ∃ y, ll_Ask_isOldAsked_2 F N x (nI l) m = some y ∧ (y = 0 ∨ y = 1) ∧ (y = 0 ↔ ∀ p q, p < 8 → l ≤ q → q < 4 → ¬ akB m p q x = true)
  | 0, l, N, hd, hN => by
    obtain ⟨N, rfl⟩ : ∃ k, N = k + 1 := ⟨N - 1, by omega⟩
    obtain rfl : l = 4 := by omega
    exact ⟨0, rfl, Or.inl rfl, fun _ p q p1 q1 q2 => by omega, fun _ => rfl⟩
  | d + 1, l, N, hd, hN => by
    obtain ⟨N, rfl⟩ : ∃ k, N = k + 1 := ⟨N - 1, by omega⟩
    have e0 : ll_Ask_isOldAsked_2 F (N + 1) x (nI l) m = lb_Ask_isOldAsked_2 F (ll_Ask_isOldAsked_2 F N) x (nI l) m := rfl
    rw [e0]
    unfold lb_Ask_isOldAsked_2
    simp only [if_neg (show ¬ (4 : Int32) ≤ nI l from nI_ge (b := 4) (by omega) (by decide)), c_old h (show l < 4 by omega) hF, o_b_some, nI_1]
    have z := oaS_0 (m := m) (l := l) (x := x) 8 0 0 (by omega)
    by_cases c : oaS m l x 8 0 0 = 0
    · rw [if_pos c]
      obtain ⟨y, e, y1, y2⟩ := c_isOld_l h hF d (l + 1) N (by omega) (by omega)
      refine ⟨y, e, y1, fun hy p q p1 q1 q2 => ?_, fun hy => y2.mpr (fun p q p1 q1 q2 => hy p q p1 (by omega) q2)⟩
      by_cases e' : q = l
      · rw [e']; exact (z.mp c).2 p (by omega) p1
      · exact y2.mp hy p q p1 (by omega) q2
    · rw [if_neg c]
      refine ⟨1, rfl, Or.inr rfl, fun hy => absurd hy (by decide), fun hy => absurd (z.mpr ⟨rfl, fun p _ p2 => hy p l p2 (Nat.le_refl _) (by omega)⟩) c⟩
theorem m_quiet_1 {F : Nat} {m : aM} {R : Int32 → aM → Option Int32} {p : Nat} (h : iA m) (hp : p < 8) : ∀ (d l N : Nat), l + d = 4 → d < N → ((∀ q, l ≤ q → q < 4 → ¬ akB m p q (m 242 46 - m 242 48) = true) → ll_Mod_isQuiet_10 F R N (nI p) (nI l) m = R (nI (p + 1)) m) ∧ ((¬ ∀ q, l ≤ q → q < 4 → ¬ akB m p q (m 242 46 - m 242 48) = true) → ll_Mod_isQuiet_10 F R N (nI p) (nI l) m = some 0)
  | 0, l, N, hd, hN => by
    obtain ⟨N, rfl⟩ : ∃ k, N = k + 1 := ⟨N - 1, by omega⟩
    obtain rfl : l = 4 := by omega
    refine ⟨fun _ => ?_, fun z => absurd (fun q q1 q2 => by omega) z⟩
    show lb_Mod_isQuiet_10 F R (ll_Mod_isQuiet_10 F R N) (nI p) (nI 4) m = _
    unfold lb_Mod_isQuiet_10
    rw [if_pos (by decide), nI_1]
  | d + 1, l, N, hd, hN => by
    obtain ⟨N, rfl⟩ : ∃ k, N = k + 1 := ⟨N - 1, by omega⟩
    have e0 : ll_Mod_isQuiet_10 F R (N + 1) (nI p) (nI l) m = lb_Mod_isQuiet_10 F R (ll_Mod_isQuiet_10 F R N) (nI p) (nI l) m := rfl
    rw [e0]
    unfold lb_Mod_isQuiet_10
    simp only [if_neg (show ¬ (4 : Int32) ≤ nI l from nI_ge (b := 4) (by omega) (by decide)), m_askedFrom h hp (show l < 4 by omega), o_b_some, nI_1]
    by_cases c : akB m p l (m 242 46 - m 242 48) = true
    · rw [if_pos c, if_neg (by decide)]
      exact ⟨fun z => absurd c (z l (Nat.le_refl _) (by omega)), fun _ => rfl⟩
    · rw [if_neg c, if_pos rfl]
      have ih := m_quiet_1 (F := F) (R := R) h hp d (l + 1) N (by omega) (by omega)
      refine ⟨fun z => ih.1 (fun q q1 q2 => z q (by omega) q2), fun z => ih.2 (fun z' => z (fun q q1 q2 => ?_))⟩
      by_cases e' : q = l
      · rw [e']; exact c
      · exact z' q (by omega) q2
theorem m_quiet_l {F : Nat} {m : aM} (h : iA m) (hF : 10 ≤ F) : ∀ (d p N : Nat), p + d = 8 → d < N → ∃ y, ll_Mod_isQuiet_2 F N (nI p) m = some y ∧ (y = 0 ∨ y = 1) ∧ (y = 1 ↔ ∀ r q, p ≤ r → r < 8 → q < 4 → ¬ akB m r q (m 242 46 - m 242 48) = true)
  | 0, p, N, hd, hN => by
    obtain ⟨N, rfl⟩ : ∃ k, N = k + 1 := ⟨N - 1, by omega⟩
    obtain rfl : p = 8 := by omega
    exact ⟨1, rfl, Or.inr rfl, fun _ r q r1 r2 q2 => by omega, fun _ => rfl⟩
  | d + 1, p, N, hd, hN => by
    obtain ⟨N, rfl⟩ : ∃ k, N = k + 1 := ⟨N - 1, by omega⟩
    have e0 : ll_Mod_isQuiet_2 F (N + 1) (nI p) m = lb_Mod_isQuiet_2 F (ll_Mod_isQuiet_2 F N) (nI p) m := rfl
    rw [e0]
    unfold lb_Mod_isQuiet_2
    rw [if_neg (show ¬ (8 : Int32) ≤ nI p from nI_ge (b := 8) (by omega) (by decide))]
    have q1 := m_quiet_1 (F := F) (R := ll_Mod_isQuiet_2 F N) h (show p < 8 by omega) 4 0 F (by omega) (by omega)
    by_cases c : ∀ q, 0 ≤ q → q < 4 → ¬ akB m p q (m 242 46 - m 242 48) = true
    · rw [show ll_Mod_isQuiet_10 F (ll_Mod_isQuiet_2 F N) F (nI p) 0 m = _ from q1.1 c]
      obtain ⟨y, e, y1, y2⟩ := m_quiet_l h hF d (p + 1) N (by omega) (by omega)
      refine ⟨y, e, y1, fun hy r q r1 r2 q2 => ?_, fun hy => y2.mpr (fun r q r1 r2 q2 => hy r q (by omega) r2 q2)⟩
      by_cases e' : r = p
      · rw [e']; exact c q (by omega) q2
      · exact y2.mp hy r q (by omega) r2 q2
    · rw [show ll_Mod_isQuiet_10 F (ll_Mod_isQuiet_2 F N) F (nI p) 0 m = _ from q1.2 c]
      exact ⟨0, rfl, Or.inl rfl, fun hy => absurd hy (by decide), fun hy => absurd (fun q _ q2 => hy p q (Nat.le_refl _) (by omega) q2) c⟩
/-- quiet: both say the same -/
theorem quiet_both {F : Nat} {m m' : aM} (h : iA m) (h' : iA m') (hF : 10 ≤ F) (e36 : ∀ j, m' 36 j = m 36 j) {x : Int32} (ex : m' 242 46 - m' 242 48 = x) : ∃ y z, f_Ask_isOldAsked F x m = some y ∧ f_Mod_isQuiet F m' = some z ∧ (y = 0 ∧ z = 1 ∨ y = 1 ∧ z = 0) := by
  obtain ⟨y, e1, y1, y2⟩ := c_isOld_l (x := x) h hF 4 0 F (by omega) (by omega)
  obtain ⟨z, e2, z1, z2⟩ := m_quiet_l h' hF 8 0 F (by omega) (by omega)
  have ak : ∀ p q, akB m' p q (m' 242 46 - m' 242 48) = akB m p q x := fun p q => by unfold akB; rw [ex, e36, e36]
  refine ⟨y, z, e1, e2, ?_⟩
  rcases y1 with rfl | rfl
  · exact Or.inl ⟨rfl, z2.mpr (fun r q _ r2 q2 => by rw [ak]; exact y2.mp rfl r q r2 (by omega) q2)⟩
  · refine Or.inr ⟨rfl, ?_⟩
    rcases z1 with rfl | rfl
    · rfl
    · exact absurd (y2.mpr (fun p q p1 _ q2 => by rw [← ak]; exact z2.mp rfl p q (by omega) p1 q2)) (by decide)
