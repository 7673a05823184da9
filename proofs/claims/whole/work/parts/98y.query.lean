/-! CALLS: way, fewest, isBack, asked of the worked ways -/
abbrev frW (m m2 : aM) : Prop := ∀ b j, ¬ (b = 8471 ∨ b = 8472 ∨ b = 242 ∧ j = 0) → m2 b j = m b j
theorem nodP_nw {c p : Nat} {x1 x2 : Int32} (hp : p ≤ 5) (h : nodP c p x1 x2) : ∃ n w, n < p6 c ∧ w < 2 ^ p ∧ x1 = nI n ∧ x2 = nI w := by
  obtain ⟨n, n1, rfl⟩ := nodP_n h
  have q : 0 < 2 ^ p := Nat.pow_pos (by decide)
  have q2 : 2 ^ p ≤ 2 ^ 5 := Nat.pow_le_pow_right (by decide) hp
  obtain ⟨w, w1, w2⟩ := rng_nat (n := 2 ^ p - 1) (shl_p p (by omega)) (by omega) h.2
  exact ⟨n, w, n1, by omega, rfl, w2⟩
theorem nn_nat {x : Int32} (h : 0 ≤ x) : ∃ v, v < 2 ^ 31 ∧ x = nI v := by
  have e : (2147483647 : Int32).toInt = 2147483647 := by decide
  have l := Int32.toInt_lt x
  obtain ⟨v, v1, v2⟩ := rng_nat (x := x) (n := 2147483647) (y := 2147483647) rfl (by decide) ⟨h, Int32.le_iff_toInt_le.mpr (by rw [e]; omega)⟩
  exact ⟨v, by omega, v2⟩
section
variable {m1 : aM} {a0 c p : Nat} {d : D3} {n w : Nat}
theorem m_fb (h : iPl m1 c p) {F : Nat} (hF : 20000 ≤ F) (b k : Bool) : ∃ m5 dM, f_Mod_findBest F (if b then 5 else 0) (kI k) (a_st m1 242 0 0) = some (0, m5) ∧ Rr m1 m5 c p dM ∧ Tb (stB m1 c p) c p (coM m1 k) (gG m1 c p b) dM ∧ frW m1 m5 ∧ m5 242 0 = 0 := by
  have f0 : ∀ b j, ¬ (b = 242 ∧ j = 0) → a_st m1 242 0 0 b j = m1 b j := fun b j hb => a_st_no hb
  have h' : iPl (a_st m1 242 0 0) c p := h.fr (fun b j hb => f0 b j (by omega))
  obtain ⟨m5, dM, e, f, s, he, tb⟩ := m_findBest (b := b) (k := k) h' hF
  have e1 : stB (a_st m1 242 0 0) c p = stB m1 c p := stB_fr (fun b j hb => f0 b j (by omega))
  have e2 : coM (a_st m1 242 0 0) k = coM m1 k := by
    unfold coM
    have : (fun n s => hS (a_st m1 242 0 0) (n / 32) s) = fun n s => hS m1 (n / 32) s := by
      funext n s
      exact hS_fr2 (fun b j hb => f0 b j (by omega)) _ _
    rw [this]
  have e3 : gG (a_st m1 242 0 0) c p b = gG m1 c p b := by
    funext n
    unfold gG
    rw [e1]
  rw [e1, e2, e3] at tb
  rw [e1] at s
  refine ⟨m5, dM, e, ⟨h'.fr (fun b j hb => f b j (by omega)), fun b j hb => by rw [f b j (by omega)]; exact f0 b j (by omega), s, he⟩, tb, fun b j hb => by rw [f b j (by omega)]; exact f0 b j (by omega), by rw [f _ _ (by decide)]; exact a_st_self⟩
theorem m_st0 (h : iPl m1 c p) {F : Nat} (hF : 20000 ≤ F) (hn : n < p6 c) (hw : w < 2 ^ p) : f_Mod_stands0 F (nI n) (nI w) (a_st m1 242 0 0) = some (if stB m1 c p (32 * n + w) then 1 else 0) := by
  have pb := (p6_b (a := c)).2
  have q2 : 2 ^ p ≤ 2 ^ 5 := Nat.pow_le_pow_right (by decide) h.2.1
  have f0 : ∀ b j, ¬ (b = 242 ∧ j = 0) → a_st m1 242 0 0 b j = m1 b j := fun b j hb => a_st_no hb
  obtain ⟨y, e, y1, y2⟩ := m_stand (F := F) (n := n) (w := nI w) (h.fr (m' := a_st m1 242 0 0) (fun b j hb => f0 b j (by omega))) (by omega) (by omega)
  have y3 : y = 1 ↔ stB m1 c p (32 * n + w) = true := by
    rw [y2, stB_iff, show (32 * n + w) / 32 = n by omega, show (32 * n + w) % 32 = w by omega, stdP_fr (fun b j hb => f0 b j (by omega))]
    exact ⟨fun z => ⟨hn, hw, z⟩, fun z => z.2.2⟩
  rw [e]
  congr 1
  rcases y1 with y1 | y1
  · rw [if_neg (fun z => by have := y3.mpr z; rw [y1] at this; exact absurd this (by decide))]
    exact y1
  · rw [if_pos (y3.mp y1)]
    exact y1
theorem c_plOf (h : Rc m1 a0 c p d) (hn : n < p6 c) (hw : w < 2 ^ p) : f_Way_placeOf a0 (nI n) (nI w) m1 = some (nI (ix c (32 * n + w))) ∧ ix c (32 * n + w) < 6912 := by
  have q2 : 2 ^ p ≤ 2 ^ 5 := Nat.pow_le_pow_right (by decide) h.1.2.1
  have e : ix c (32 * n + w) = w * p6 c + n := ix_p (by omega)
  have il : ix c (32 * n + w) < 6912 := ix_lt (by omega)
  refine ⟨?_, il⟩
  unfold f_Way_placeOf
  rw [h.2.1, nI_mul, nI_add, ← e, c_isPl il, o_b_some, if_neg (by decide)]
theorem i_N (h : iPl m1 c p) (hn : n < p6 c) (hw : w < 2 ^ p) : (32 : Int32) * nI n + nI w = nI (32 * n + w) ∧ 32 * n + w < 6912 ∧ (32 * n + w) / 32 = n ∧ (32 * n + w) % 32 = w := by
  have pb := (p6_b (a := c)).2
  have q2 : 2 ^ p ≤ 2 ^ 5 := Nat.pow_le_pow_right (by decide) h.2.1
  refine ⟨by rw [show (32 : Int32) = nI 32 from rfl, nI_mul, nI_add], by omega, by omega, by omega⟩
theorem Rc.non (h : Rc m1 a0 c p d) (i : Fin 3) {k : Nat} (hs : ¬ stB m1 c p k = true) : d i k = none := by
  cases e : d i k with
  | none => rfl
  | some v => exact absurd (snd_st (stB_ok h.1) (GC_st i) (h.2.2.2 i).1.t e) hs
theorem q_fewest (h : Rc m1 a0 c p d) {F : Nat} (hF : 20000 ≤ F) (hn : n < p6 c) (hw : w < 2 ^ p) : ∃ y m2, f_Way_fewestRewritten a0 (nI n) (nI w) m1 = some y ∧ f_Mod_fewest F (nI n) (nI w) m1 = some (y, m2) ∧ m2 242 0 = 0 ∧ frW m1 m2 := by
  obtain ⟨i1, i2, i3, i4⟩ := i_N h.1 hn hw
  obtain ⟨e1, il⟩ := c_plOf h hn hw
  have rd : m1 (a0 + 3) (ix c (32 * n + w)) = enW (d 1 (32 * n + w)) := h.2.2.1 _ (by omega) (by omega) trivial 1
  have hp0 : iPl (a_st m1 242 0 0) c p := h.1.fr (fun b j hb => a_st_no (by omega))
  have bb := p6_b (a := c)
  have q2 : 2 ^ p ≤ 2 ^ 5 := Nat.pow_le_pow_right (by decide) h.1.2.1
  unfold f_Way_fewestRewritten f_Mod_fewest b_Mod_fewest_20
  simp only [e1, o_b_some, inb_nI il (by decide), o_gd_t, o_let_eq, nI_clamp (show ix c (32 * n + w) < 2 ^ 31 by omega), rd, m_isNode hp0, if_pos ((nodP_iff h.1.2.1 (show n < 2 ^ 31 by omega) (show w < 2 ^ 31 by omega)).mpr ⟨hn, hw⟩), show ¬ (1 : Int32) = 0 by decide, if_false, z_bad0, o_b2_some, if_true, m_st0 h.1 hF hn hw]
  by_cases hs : stB m1 c p (32 * n + w) = true
  · obtain ⟨m5, dM, k1, k2, k3, k4, k5⟩ := m_fb h.1 hF true true
    have k1' : f_Mod_findBest F 5 1 (a_st m1 242 0 0) = some (0, m5) := k1
    have ed : d 1 (32 * n + w) = dM (32 * n + w) := same_d (N := 6912) (h.2.2.2 1).1.t k3.1.t (h.2.2.2 1).2 k3.2 i2
    simp only [if_pos hs, show ¬ (1 : Int32) = 0 by decide, if_false, k1', o_b2_some, i1, inb_nI i2 (by decide), o_gd_t, nI_clamp (show 32 * n + w < 2 ^ 31 by omega), k2.2.2.2 _ i2, ← ed]
    cases ev : d 1 (32 * n + w) with
    | none =>
      rw [show enW none = 2147483647 from rfl, if_pos rfl]
      exact ⟨_, _, rfl, rfl, k5, k4⟩
    | some v =>
      have vb := snd_bd (stB_ok h.1) (coC_C h.1 1) (h.2.2.2 1).1 i2 ev
      rw [show enW (some v) = nI v from rfl, if_neg (enW_max (by omega))]
      exact ⟨_, _, rfl, rfl, k5, k4⟩
  · simp only [if_neg hs, if_true, h.non 1 hs, show enW none = 2147483647 from rfl]
    exact ⟨_, _, rfl, rfl, a_st_self, fun b j hb => a_st_no (by omega)⟩
/-- a way back: the class's marks against the reference's costs -/
theorem back_iff (h : Rc m1 a0 c p d) {dM : Nat → Option Nat} (t : Tb (stB m1 c p) c p (coM m1 true) (gG m1 c p false) dM) {k : Nat} (hk : k < 6912) : d 2 k = none ↔ dM k = none := by
  constructor
  · intro z
    cases e : dM k with
    | none => rfl
    | some v =>
      obtain ⟨l, x, x1, x2, _⟩ := t.1 k v e
      obtain ⟨v', x3⟩ := wr_any (co' := coC m1 2) l k x v x1
      obtain ⟨u, u1, _⟩ := (h.2.2.2 2).2 l k x v' hk x3 x2
      rw [z] at u1
      exact absurd u1 (by simp)
  · intro z
    cases e : d 2 k with
    | none => rfl
    | some v =>
      obtain ⟨l, x, x1, x2, _⟩ := (h.2.2.2 2).1 k v e
      obtain ⟨v', x3⟩ := wr_any (co' := coM m1 true) l k x v x1
      obtain ⟨u, u1, _⟩ := t.2 l k x v' hk x3 x2
      rw [z] at u1
      exact absurd u1 (by simp)
theorem q_isBack (h : Rc m1 a0 c p d) {F : Nat} (hF : 20000 ≤ F) (hn : n < p6 c) (hw : w < 2 ^ p) : ∃ y m2, f_Way_hasBack a0 (nI n) (nI w) m1 = some y ∧ f_Mod_isBack F (nI n) (nI w) m1 = some (y, m2) ∧ m2 242 0 = 0 ∧ frW m1 m2 := by
  obtain ⟨i1, i2, i3, i4⟩ := i_N h.1 hn hw
  obtain ⟨e1, il⟩ := c_plOf h hn hw
  have rd : m1 (a0 + 4) (ix c (32 * n + w)) = enB (d 2 (32 * n + w)) := h.2.2.1 _ (by omega) (by omega) trivial 2
  have hp0 : iPl (a_st m1 242 0 0) c p := h.1.fr (fun b j hb => a_st_no (by omega))
  have bb := p6_b (a := c)
  have q2 : 2 ^ p ≤ 2 ^ 5 := Nat.pow_le_pow_right (by decide) h.1.2.1
  unfold f_Way_hasBack f_Mod_isBack b_Mod_isBack_20
  simp only [e1, o_b_some, inb_nI il (by decide), o_gd_t, o_let_eq, nI_clamp (show ix c (32 * n + w) < 2 ^ 31 by omega), rd, m_isNode hp0, if_pos ((nodP_iff h.1.2.1 (show n < 2 ^ 31 by omega) (show w < 2 ^ 31 by omega)).mpr ⟨hn, hw⟩), show ¬ (1 : Int32) = 0 by decide, if_false, z_bad0, o_b2_some, if_true, m_st0 h.1 hF hn hw]
  by_cases hs : stB m1 c p (32 * n + w) = true
  · obtain ⟨m5, dM, k1, k2, k3, k4, k5⟩ := m_fb h.1 hF false true
    have k1' : f_Mod_findBest F 0 1 (a_st m1 242 0 0) = some (0, m5) := k1
    have ed := back_iff h k3 i2
    simp only [if_pos hs, show ¬ (1 : Int32) = 0 by decide, if_false, k1', o_b2_some, i1, inb_nI i2 (by decide), o_gd_t, nI_clamp (show 32 * n + w < 2 ^ 31 by omega), k2.2.2.2 _ i2]
    cases ev : d 2 (32 * n + w) with
    | none =>
      rw [ed.mp ev, show enM none = -1 from rfl, if_pos rfl]
      exact ⟨_, _, rfl, rfl, k5, k4⟩
    | some v =>
      cases eM : dM (32 * n + w) with
      | none =>
        rw [ed.mpr eM] at ev
        exact absurd ev (by simp)
      | some u =>
        have ub := snd_bd (stB_ok h.1) (coM_C (k := true) (stB_ok h.1) h.1) k3.1 i2 eM
        rw [show enM (some u) = nI u from rfl, if_neg (nI_m1 (by omega))]
        exact ⟨_, _, rfl, rfl, k5, k4⟩
  · simp only [if_neg hs, if_true, h.non 2 hs, show enB none = 0 from rfl, show isb 0 = true from rfl, o_gd_t]
    exact ⟨_, _, rfl, rfl, a_st_self, fun b j hb => a_st_no (by omega)⟩
theorem q_way (h : Rc m1 a0 c p d) {F : Nat} (hF : 20000 ≤ F) (hn : n < p6 c) (hw : w < 2 ^ p) {x3 : Int32} (h3 : -2 ≤ x3) : ∃ y m2, f_Way_partOfWay F a0 (nI n) (nI w) x3 m1 = some y ∧ f_Mod_way F (nI n) (nI w) x3 m1 = some (y, m2) ∧ m2 242 0 = 0 ∧ frW m1 m2 := by
  obtain ⟨i1, i2, i3, i4⟩ := i_N h.1 hn hw
  obtain ⟨e1, il⟩ := c_plOf h hn hw
  have rd : m1 (a0 + 2) (ix c (32 * n + w)) = enW (d 0 (32 * n + w)) := h.2.2.1 _ (by omega) (by omega) trivial 0
  have hp0 : iPl (a_st m1 242 0 0) c p := h.1.fr (fun b j hb => a_st_no (by omega))
  have bb := p6_b (a := c)
  have q2 : 2 ^ p ≤ 2 ^ 5 := Nat.pow_le_pow_right (by decide) h.1.2.1
  unfold f_Way_partOfWay f_Mod_way b_Mod_way_26
  simp only [e1, o_b_some, inb_nI il (by decide), o_gd_t, o_let_eq, nI_clamp (show ix c (32 * n + w) < 2 ^ 31 by omega), rd, m_isNode hp0, if_pos ((nodP_iff h.1.2.1 (show n < 2 ^ 31 by omega) (show w < 2 ^ 31 by omega)).mpr ⟨hn, hw⟩), show ¬ (1 : Int32) = 0 by decide, if_false, if_pos h3, z_bad0, o_b2_some, if_true, m_st0 h.1 hF hn hw]
  by_cases hs : stB m1 c p (32 * n + w) = true
  · obtain ⟨m5, dM, k1, k2, k3, k4, k5⟩ := m_fb h.1 hF true false
    have k1' : f_Mod_findBest F 5 0 (a_st m1 242 0 0) = some (0, m5) := k1
    have t : Tb (stB m1 c p) c p (cB1 (hG m1) 10000) (gG m1 c p true) dM := k3
    simp only [if_pos hs, show ¬ (1 : Int32) = 0 by decide, if_false, k1', o_b2_some, i1, inb_nI i2 (by decide), o_gd_t, nI_clamp (show 32 * n + w < 2 ^ 31 by omega), k2.2.2.2 _ i2]
    rcases (show Two m1 c p (d 0) dM from ⟨h.tb, t⟩).at h.1 i2 with ⟨z1, z2⟩ | ⟨H, S, s1, s2, s3, z1, z2⟩
    · simp only [z1, z2, show enW none = 2147483647 from rfl, show enM none = -1 from rfl, if_true]
      exact ⟨_, _, rfl, rfl, k5, k4⟩
    · simp only [z1, z2, show enW (some (2048 * H + S)) = nI (2048 * H + S) from rfl, show enM (some (10000 * H + S)) = nI (10000 * H + S) from rfl, if_neg (enW_max (show 2048 * H + S < 2147483647 by omega)), if_neg (nI_m1 (show 10000 * H + S < 2 ^ 31 by omega))]
      have d1 : nI (2048 * H + S) / 2048 = nI H := by
        rw [show (2048 : Int32) = nI 2048 from rfl, nI_div (by omega) (by decide)]
        congr 1
        omega
      have d2 : nI (10000 * H + S) / 10000 = nI H := by
        rw [show (10000 : Int32) = nI 10000 from rfl, nI_div (by omega) (by decide)]
        congr 1
        omega
      have d3 : nI (2048 * H + S) % 2048 = nI S := by
        rw [show (2048 : Int32) = nI 2048 from rfl, nI_mod (by omega) (by decide)]
        congr 1
        omega
      have d4 : nI (10000 * H + S) % 10000 = nI S := by
        rw [show (10000 : Int32) = nI 10000 from rfl, nI_mod (by omega) (by decide)]
        congr 1
        omega
      rw [d1, d2, d3, d4]
      by_cases x0 : 0 ≤ x3
      · obtain ⟨v, hv, rfl⟩ := nn_nat x0
        have n1 : ¬ nI v = -1 := nI_m1 hv
        have n2 : ¬ nI v = -2 := fun z => by
          have : (nI v).toInt = (-2 : Int32).toInt := by rw [z]
          rw [nI_toInt hv] at this
          have e : (-2 : Int32).toInt = -2 := by decide
          omega
        rw [if_neg n1, if_neg n2, if_neg (nI_pos hv), if_pos x0]
        obtain ⟨w1, w2⟩ := way_l h k2 t hF (x3 := nI v) S (32 * n + w) 0 H F (by omega) (by omega) z2 (by omega) (by omega)
        by_cases lt : v < S
        · obtain ⟨s, q1, q2⟩ := w1 v rfl (by omega) (by omega) F (by omega)
          rw [if_neg (show ¬ nI S ≤ nI v from nI_ge lt (by omega))]
          unfold f_Way_stepOfWay
          have q1' : ll_Mod_way_111 F F (nI v) (nI (32 * n + w)) 0 m5 = some (nI s, m5) := q1
          have q2' : ll_Way_stepOfWay_5 F F a0 (nI v) (nI (ix c (32 * n + w))) 0 m1 = some (nI s) := q2
          rw [q1', q2', o_b_some]
          exact ⟨_, _, rfl, rfl, k5, k4⟩
        · rw [if_pos (nI_le (by omega) hv)]
          have q1' : ll_Mod_way_111 F F (nI v) (nI (32 * n + w)) 0 m5 = some (-1, m5) := w2 (fun u hu z => by
            have := nI_inj hv (by omega) z.2
            omega)
          rw [q1']
          exact ⟨_, _, rfl, rfl, k5, k4⟩
      · rw [if_neg x0]
        have two : x3 = -1 ∨ x3 = -2 := by
          have a1 := Int32.le_iff_toInt_le.mp h3
          have a2 : ¬ (0 : Int32).toInt ≤ x3.toInt := fun z => x0 (Int32.le_iff_toInt_le.mpr z)
          have e1 : (-2 : Int32).toInt = -2 := by decide
          have e2 : (0 : Int32).toInt = 0 := by decide
          rw [e1] at a1
          rw [e2] at a2
          rcases (show x3.toInt = -1 ∨ x3.toInt = -2 by omega) with z | z
          · exact Or.inl (Int32.toInt_inj.mp (by rw [z]; decide))
          · exact Or.inr (Int32.toInt_inj.mp (by rw [z]; decide))
        rcases two with rfl | rfl
        · rw [if_pos rfl, if_pos rfl]
          exact ⟨_, _, rfl, rfl, k5, k4⟩
        · rw [if_neg (by decide), if_pos rfl, if_neg (by decide)]
          exact ⟨_, _, rfl, rfl, k5, k4⟩
  · simp only [if_neg hs, if_true, h.non 0 hs, show enW none = 2147483647 from rfl]
    exact ⟨_, _, rfl, rfl, a_st_self, fun b j hb => a_st_no (by omega)⟩
end
