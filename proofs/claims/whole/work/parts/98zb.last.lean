/-! CALLS: last, asked of the worked ways -/
theorem a_zr_at {m : aM} {z b j : Nat} (h : b ≠ z) : a_zr m z b j = m b j := if_neg h
theorem a_zr_z {m : aM} {z j : Nat} : a_zr m z z j = 0 := if_pos rfl
section
variable {m1 : aM} {a0 c p : Nat} {d : D3} {n w : Nat}
theorem m_fbG {mm : aM} (h : iPl mm c p) (f0 : ∀ b j, 30 ≤ b ∧ b ≤ 34 → mm b j = m1 b j) {F : Nat} (hF : 20000 ≤ F) (b k : Bool) : ∃ m5 dM, f_Mod_findBest F (if b then 5 else 0) (kI k) mm = some (0, m5) ∧ Rr m1 m5 c p dM ∧ Tb (stB m1 c p) c p (coM m1 k) (gG m1 c p b) dM ∧ fB2 mm m5 := by
  obtain ⟨m5, dM, e, f, s, he, tb⟩ := m_findBest (b := b) (k := k) h hF
  have e1 : stB mm c p = stB m1 c p := stB_fr (fun b j hb => f0 b j (by omega))
  have e2 : coM mm k = coM m1 k := by
    unfold coM
    have : (fun n s => hS mm (n / 32) s) = fun n s => hS m1 (n / 32) s := by
      funext n s
      exact hS_fr2 (fun b j hb => f0 b j (by omega)) _ _
    rw [this]
  have e3 : gG mm c p b = gG m1 c p b := by
    funext n
    unfold gG
    rw [e1]
  rw [e1, e2, e3] at tb
  rw [e1] at s
  exact ⟨m5, dM, e, ⟨h.fr (fun b j hb => f b j (by omega)), fun b j hb => by rw [f b j (by omega)]; exact f0 b j hb, s, he⟩, tb, f⟩
theorem m_last55 {F : Nat} {z z' : Nat} {x1 x2 : Int32} {dB : Nat → Option Nat} (hz : 8692 ≤ z) (hb : ∀ k v, k < 6912 → dB k = some v → v < 2 ^ 31) : ∀ (t i N : Nat) (m : aM), i + t = 6912 → t < N → fE m dB → ∃ m2 N', ll_Mod_last_55 F N z' x1 x2 z (nI i) m = ll_Mod_last_55 F (N' + 1) z' x1 x2 z 6912 m2 ∧ (∀ b j, ¬ (b = z ∧ i ≤ j) → m2 b j = m b j) ∧ ∀ j, i ≤ j → j < 6912 → m2 z j = if dB j = none then 0 else 1
  | 0, i, N, m, ht, hN, he => by
    obtain ⟨N, rfl⟩ : ∃ q, N = q + 1 := ⟨N - 1, by omega⟩
    obtain rfl : i = 6912 := by omega
    exact ⟨m, N, rfl, fun _ _ _ => rfl, fun j h1 h2 => by omega⟩
  | t + 1, i, N, m, ht, hN, he => by
    obtain ⟨N, rfl⟩ : ∃ q, N = q + 1 := ⟨N - 1, by omega⟩
    have hi : i < 6912 := by omega
    obtain ⟨m2, N', e, f, g⟩ := m_last55 (x1 := x1) (x2 := x2) (F := F) (z' := z') hz hb t (i + 1) N (a_st m z i (if dB i = none then 0 else 1)) (by omega) (by omega) (fun k hk => by rw [a_st_no (by omega)]; exact he k hk)
    refine ⟨m2, N', Eq.trans ?_ e, fun b j hb' => ?_, fun j h1 h2 => ?_⟩
    · show lb_Mod_last_55 F (ll_Mod_last_55 F N) z' x1 x2 z (nI i) m = _
      unfold lb_Mod_last_55 b_Mod_last_82
      rw [if_neg (show ¬ (6912 : Int32) ≤ nI i from nI_ge (b := 6912) hi (by decide)), inb_nI hi (by decide), o_gd_t, nI_clamp (by omega), he i hi, show nI i + 1 = nI (i + 1) from nI_add i 1]
      cases ei : dB i with
      | none =>
        rw [show enM none = -1 from rfl, if_pos rfl, if_pos rfl]
        rfl
      | some v =>
        rw [show enM (some v) = nI v from rfl, if_neg (nI_m1 (hb i v hi ei)), if_neg (by simp)]
        rfl
    · rw [f b j (by omega), a_st_no (by omega)]
    · by_cases q : j = i
      · rw [q, f _ _ (by omega), a_st_self]
      · exact g j (by omega) h2
theorem last_l (h : Rc m1 a0 c p d) {mr : aM} {dM : Nat → Option Nat} (r : Rr m1 mr c p dM) (t : Tb (stB m1 c p) c p (cB1 (hG m1) 10000) (gG m1 c p true) dM) {F z z' : Nat} (hF : 20000 ≤ F) (hz : ∀ j, j < 6912 → mr z j = if d 2 j = none then 0 else 1) : ∀ (S n k H N N' : Nat) (xr : Int32), n / 32 < p6 c → n % 32 < 2 ^ p → dM n = some (10000 * H + S) → S + k ≤ 1295 → S < N → S < N' → ∃ y, ll_Way_lastBack_51 F N a0 (nI (ix c n)) (nI (k + S)) (if d 2 n = none then xr else nI k) (nI (k + 1)) m1 = some y ∧ ll_Mod_last_122 F N' z' z (nI n) xr (nI k) mr = some ((y, z'), mr)
  | 0, n, k, H, N, N', xr, hn, hw, e, hk, hN, hN' => by
    obtain ⟨N, rfl⟩ : ∃ q, N = q + 1 := ⟨N - 1, by omega⟩
    obtain ⟨N', rfl⟩ : ∃ q, N' = q + 1 := ⟨N' - 1, by omega⟩
    have pb := (p6_b (a := c)).2
    have n6 : n < 6912 := by omega
    have H0 : H = 0 := by
      rcases (show Two m1 c p (d 0) dM from ⟨h.tb, t⟩).at h.1 n6 with ⟨_, z⟩ | ⟨H1, S1, s1, _, z0, _, z⟩
      · rw [z] at e
        exact absurd e (by simp)
      · rw [z] at e
        have := Option.some.inj e
        by_cases q : S1 = 0
        · have := z0 q
          omega
        · omega
    subst H0
    refine ⟨if d 2 n = none then xr else nI k, ?_, ?_⟩
    · show lb_Way_lastBack_51 F (ll_Way_lastBack_51 F N) a0 (nI (ix c n)) (nI (k + 0)) _ (nI (k + 1)) m1 = _
      unfold lb_Way_lastBack_51
      rw [if_pos (show nI (k + 0) < nI (k + 1) from nI_lt (by omega) (by omega))]
    · show lb_Mod_last_122 F (ll_Mod_last_122 F N') z' z (nI n) xr (nI k) mr = _
      unfold lb_Mod_last_122
      rw [inb_nI n6 (by decide), o_gd_t, nI_clamp (by omega), r.2.2.2 n n6, e, if_pos (by decide), o_gd_t, hz n n6]
      by_cases q : d 2 n = none
      · rw [if_pos q, if_pos rfl, if_pos q]
      · rw [if_neg q, if_neg (by decide), if_neg q]
  | S + 1, n, k, H, N, N', xr, hn, hw, e, hk, hN, hN' => by
    obtain ⟨N, rfl⟩ : ∃ q, N = q + 1 := ⟨N - 1, by omega⟩
    obtain ⟨N', rfl⟩ : ∃ q, N' = q + 1 := ⟨N' - 1, by omega⟩
    have pb := (p6_b (a := c)).2
    have n6 : n < 6912 := by omega
    have eb := snd_bd (stB_ok h.1) (cB_C h.1) t.1 n6 e
    obtain ⟨s, x, H', s11, x1, x2, ex, e1, e2, e3, e4⟩ := both_step h r t hF hn hw e (by omega) (by omega)
    obtain ⟨y, y1, y2⟩ := last_l h r t (z := z) (z' := z') hF hz S x (k + 1) H' N N' (if d 2 n = none then xr else nI k) x1 x2 ex (by omega) (by omega) (by omega)
    refine ⟨y, ?_, ?_⟩
    · refine Eq.trans ?_ y1
      show lb_Way_lastBack_51 F (ll_Way_lastBack_51 F N) a0 (nI (ix c n)) (nI (k + (S + 1))) _ (nI (k + 1)) m1 = _
      unfold lb_Way_lastBack_51 b_Way_lastBack_85
      have rd : m1 (a0 + 4) (ix c x) = enB (d 2 x) := h.2.2.1 _ x1 x2 trivial 2
      rw [if_neg (show ¬ nI (k + (S + 1)) < nI (k + 1) from nI_nlt (by omega) (by omega)), e3, o_b_some, e4, o_b_some, inb_nI (ix_lt x1) (by decide), o_gd_t, o_let_eq, nI_clamp (by have := ix_lt x1; omega), rd, show nI (k + 1) + 1 = nI (k + 1 + 1) from nI_add _ 1, show k + (S + 1) = k + 1 + S by omega]
      cases ev : d 2 x with
      | none =>
        rw [show enB none = 0 from rfl, if_pos rfl, if_pos rfl]
      | some v =>
        rw [show enB (some v) = 1 from rfl, if_neg (by decide), if_neg (by simp)]
    · refine Eq.trans ?_ y2
      show lb_Mod_last_122 F (ll_Mod_last_122 F N') z' z (nI n) xr (nI k) mr = _
      unfold lb_Mod_last_122 b_Mod_last_146
      rw [inb_nI n6 (by decide), o_gd_t, nI_clamp (by omega), r.2.2.2 n n6, e, show enM (some (10000 * H + (S + 1))) = nI (10000 * H + (S + 1)) from rfl, if_neg (show ¬ nI (10000 * H + (S + 1)) ≤ 0 from nI_ge (b := 10000 * H + (S + 1)) (a := 0) (by omega) (by omega)), o_gd_t, hz n n6, e1, o_b_some, e2, o_b_some, o_b_some, show nI k + 1 = nI (k + 1) from nI_add k 1]
      by_cases q : d 2 n = none
      · rw [if_pos q, if_pos rfl, if_pos q]
      · rw [if_neg q, if_neg (by decide), e2, o_b_some, if_neg q]
theorem q_last (h : Rc m1 a0 c p d) {F z : Nat} (hF : 20000 ≤ F) (hz : 8692 ≤ z) (hn : n < p6 c) (hw : w < 2 ^ p) : ∃ y z' m2, f_Way_lastBack F a0 (nI n) (nI w) m1 = some y ∧ f_Mod_last F z (nI n) (nI w) m1 = some ((y, z'), m2) ∧ (z' = z ∨ z' = z + 1) ∧ m2 242 0 = 0 ∧ ∀ b j, ¬ (b = 8471 ∨ b = 8472 ∨ b = 242 ∧ j = 0 ∨ b = z) → m2 b j = m1 b j := by
  obtain ⟨i1, i2, i3, i4⟩ := i_N h.1 hn hw
  obtain ⟨e1, il⟩ := c_plOf h hn hw
  have rd : m1 (a0 + 2) (ix c (32 * n + w)) = enW (d 0 (32 * n + w)) := h.2.2.1 _ (by omega) (by omega) trivial 0
  have rd2 : m1 (a0 + 4) (ix c (32 * n + w)) = enB (d 2 (32 * n + w)) := h.2.2.1 _ (by omega) (by omega) trivial 2
  have hp0 : iPl (a_st m1 242 0 0) c p := h.1.fr (fun b j hb => a_st_no (by omega))
  have bb := p6_b (a := c)
  have q2 : 2 ^ p ≤ 2 ^ 5 := Nat.pow_le_pow_right (by decide) h.1.2.1
  unfold f_Way_lastBack f_Mod_last b_Mod_last_20 b_Way_lastBack_46
  simp only [e1, o_b_some, inb_nI il (by decide), o_gd_t, o_let_eq, nI_clamp (show ix c (32 * n + w) < 2 ^ 31 by omega), rd, rd2, m_isNode hp0, if_pos ((nodP_iff h.1.2.1 (show n < 2 ^ 31 by omega) (show w < 2 ^ 31 by omega)).mpr ⟨hn, hw⟩), show ¬ (1 : Int32) = 0 by decide, if_false, z_bad0, o_b2_some, if_true, m_st0 h.1 hF hn hw]
  by_cases hs : stB m1 c p (32 * n + w) = true
  · have f1 : ∀ b j, ¬ (b = 242 ∧ j = 0 ∨ b = z) → a_zr (a_st m1 242 0 0) z b j = m1 b j := fun b j hb => by
      rw [a_zr_at (fun q => hb (Or.inr q)), a_st_no (fun q => hb (Or.inl q))]
    obtain ⟨m5, dB, k1, k2, k3, k4⟩ := m_fbG (m1 := m1) (mm := a_zr (a_st m1 242 0 0) z) (h.1.fr (fun b j hb => f1 b j (by omega))) (fun b j hb => f1 b j (by omega)) hF false true
    have k1' : f_Mod_findBest F 0 1 (a_zr (a_st m1 242 0 0) z) = some (0, m5) := k1
    obtain ⟨m6, N', g1, g2, g3⟩ := m_last55 (F := F) (z := z) (z' := z + 1) (x1 := nI n) (x2 := nI w) (dB := dB) hz (fun k v hk ev => by
      have := snd_bd (stB_ok h.1) (coM_C (k := true) (stB_ok h.1) h.1) k3.1 hk ev
      omega) 6912 0 F m5 (by omega) (by omega) k2.2.2.2
    have f6 : ∀ b j, ¬ (b = 8471 ∨ b = 8472 ∨ b = 242 ∧ j = 0 ∨ b = z) → m6 b j = m1 b j := fun b j hb => by
      rw [g2 b j (by omega), k4 b j (by omega)]
      exact f1 b j (by omega)
    obtain ⟨m7, dM, l1, l2, l3, l4⟩ := m_fbG (m1 := m1) (mm := m6) (h.1.fr (fun b j hb => f6 b j (by omega))) (fun b j hb => f6 b j (by omega)) hF true false
    have l1' : f_Mod_findBest F 5 0 m6 = some (0, m7) := l1
    have t : Tb (stB m1 c p) c p (cB1 (hG m1) 10000) (gG m1 c p true) dM := l3
    have f7 : ∀ b j, ¬ (b = 8471 ∨ b = 8472 ∨ b = 242 ∧ j = 0 ∨ b = z) → m7 b j = m1 b j := fun b j hb => by
      rw [l4 b j (by omega)]
      exact f6 b j hb
    have th : m7 242 0 = 0 := by
      rw [l4 _ _ (by omega), g2 _ _ (by omega), k4 _ _ (by omega), a_zr_at (by omega), a_st_self]
    have hzB : ∀ j, j < 6912 → m7 z j = if d 2 j = none then 0 else 1 := fun j hj => by
      rw [l4 _ _ (by omega), g3 j (by omega) hj]
      by_cases q : dB j = none
      · rw [if_pos q, if_pos ((back_iff h k3 hj).mpr q)]
      · rw [if_neg q, if_neg (fun y => q ((back_iff h k3 hj).mp y))]
    have g1' : ll_Mod_last_55 F F (z + 1) (nI n) (nI w) z 0 m5 = ll_Mod_last_55 F (N' + 1) (z + 1) (nI n) (nI w) z 6912 m6 := g1
    have st : ll_Mod_last_55 F (N' + 1) (z + 1) (nI n) (nI w) z 6912 m6 = (if enM (dM (32 * n + w)) = -1 then some ((-1, z + 1), m7) else ll_Mod_last_122 F F (z + 1) z (nI (32 * n + w)) (-1) 0 m7) := by
      show lb_Mod_last_55 F (ll_Mod_last_55 F N') (z + 1) (nI n) (nI w) z 6912 m6 = _
      unfold lb_Mod_last_55
      rw [if_pos (by decide), l1', o_b2_some, i1, inb_nI i2 (by decide), o_gd_t, o_let_eq, nI_clamp (by omega), l2.2.2.2 _ i2]
    simp only [if_pos hs, show ¬ (1 : Int32) = 0 by decide, if_false, k1', o_b2_some, g1', st]
    rcases (show Two m1 c p (d 0) dM from ⟨h.tb, t⟩).at h.1 i2 with ⟨z1, z2⟩ | ⟨H, S, s1, s2, s3, z1, z2⟩
    · simp only [z1, z2, show enW none = 2147483647 from rfl, show enM none = -1 from rfl, if_true]
      exact ⟨_, _, _, rfl, rfl, Or.inr rfl, th, f7⟩
    · simp only [z1, z2, show enW (some (2048 * H + S)) = nI (2048 * H + S) from rfl, show enM (some (10000 * H + S)) = nI (10000 * H + S) from rfl, if_neg (enW_max (show 2048 * H + S < 2147483647 by omega)), if_neg (nI_m1 (show 10000 * H + S < 2 ^ 31 by omega))]
      have d3 : nI (2048 * H + S) % 2048 = nI S := by
        rw [show (2048 : Int32) = nI 2048 from rfl, nI_mod (by omega) (by decide)]
        congr 1
        omega
      rw [d3]
      obtain ⟨y, y1, y2⟩ := last_l h l2 t (z := z) (z' := z + 1) hF hzB S (32 * n + w) 0 H F F (-1) (by omega) (by omega) z2 (by omega) (by omega) (by omega)
      rw [Nat.zero_add] at y1
      refine ⟨y, z + 1, m7, ?_, y2, Or.inr rfl, th, f7⟩
      refine Eq.trans ?_ y1
      cases ev : d 2 (32 * n + w) with
      | none =>
        rw [show enB none = 0 from rfl, if_pos rfl, if_pos rfl]
        rfl
      | some v =>
        rw [show enB (some v) = 1 from rfl, if_neg (by decide), if_neg (by simp)]
        rfl
  · simp only [if_neg hs, if_true, h.non 0 hs, show enW none = 2147483647 from rfl]
    exact ⟨_, _, _, rfl, rfl, Or.inl rfl, a_st_self, fun b j hb => a_st_no (by omega)⟩
end
