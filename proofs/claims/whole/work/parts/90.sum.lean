/-! CALLS: sum, halves -/
def wg (f : Nat → Int32) : Int32 := f 0 + 3 * f 1 + 5 * f 2 + 7 * f 3
theorem wg_cg {f g : Nat → Int32} (h : ∀ j, j < 4 → f j = g j) : wg f = wg g := by
  unfold wg
  rw [h 0 (by omega), h 1 (by omega), h 2 (by omega), h 3 (by omega)]
theorem c_weigh {a : Nat} {m : aM} : f_Tab_weigh a m = some (wg (m a)) := rfl
theorem m_weigh {a : Nat} {m : aM} : f_Mod_weigh a m = some (wg (m a)) := rfl
/-- what the rows from k on differ by -/
def sS (m : aM) (st : lS) : Nat → Nat → Int32 → Int32
  | 0, _, x => x
  | d + 1, k, x => sS m st d (k + 1) (if m (42 + 5 * k) 3 = 1 then x + (wg (m (44 + 5 * k)) - wg (fun j => sN st j (m (43 + 5 * k)))) else x)
theorem rS.e {m m' : aM} (h : rS m m') {b : Nat} (hb : (42 ≤ b ∧ b ≤ 241) ∨ (8473 ≤ b ∧ b ≤ 8641)) : m' b = m b := funext fun j => h b j hb
theorem c_sumOf_l {F b : Nat} {st : lS} {m0 : aM} (hb : b < 40) (hF : 5000 ≤ F) : ∀ (d k N : Nat) (x : Int32) (m : aM), k + d = b + 1 → d < N → LC m st → rS m0 m → ∃ m', ll_Tab_sumOf_9 F N (nI b) x (nI k) m = some (sS m0 st d k x, m') ∧ Fr (fun b j => b = 10 ∨ (b = 40 ∧ j < 4)) m m'
  | 0, k, N, x, m, hd, hN, hL, h => by
    obtain ⟨N, rfl⟩ : ∃ k, N = k + 1 := ⟨N - 1, by omega⟩
    refine ⟨m, ?_, Fr.rf⟩
    show lb_Tab_sumOf_9 F (ll_Tab_sumOf_9 F N) (nI b) x (nI k) m = _
    unfold lb_Tab_sumOf_9 sS
    rw [if_pos (nI_lt (by omega) (by omega))]
  | d + 1, k, N, x, m, hd, hN, hL, h => by
    obtain ⟨N, rfl⟩ : ∃ k, N = k + 1 := ⟨N - 1, by omega⟩
    have hk : k < 40 := by omega
    rw [show ll_Tab_sumOf_9 F (N + 1) (nI b) x (nI k) m = lb_Tab_sumOf_9 F (ll_Tab_sumOf_9 F N) (nI b) x (nI k) m from rfl]
    unfold lb_Tab_sumOf_9 b_Tab_sumOf_75 sS
    simp only [if_neg (nI_nlt (a := b) (b := k) (by omega) (by omega)), if_neg (c40 hk), inb_nI hk (by decide), o_gd_t, rwp_n hk, nI_1, h.e (b := 42 + 5 * k) (by omega)]
    by_cases c : m0 (42 + 5 * k) 3 = 1
    · obtain ⟨u, ds⟩ := hL.1
      obtain ⟨m1, e1, v1, f1⟩ := c_toNew (F := F) (a1 := 42 + 5 * k + 1) (a2 := 40) ds (by omega) (by omega) (by omega) (by omega)
      simp only [if_pos c, e1, o_b2_some, c_weigh, o_b_some]
      obtain ⟨m', e2, f2⟩ := c_sumOf_l (m0 := m0) hb hF d (k + 1) N (x + (wg (m0 (44 + 5 * k)) - wg (fun j => sN st j (m0 (43 + 5 * k))))) m1 (by omega) (by omega) (hL.fr (fun b j hb => f1 b j (by unfold fL at hb; omega))) (h.tr (fun b j hb => f1 b j (by omega)))
      refine ⟨m', ?_, f1.tr f2⟩
      rw [← e2, wg_cg (f := m1 (42 + 5 * k + 2)) (g := m0 (44 + 5 * k)) (fun j hj => by rw [f1 _ _ (by omega), show 42 + 5 * k + 2 = 44 + 5 * k by omega, h _ _ (by omega)]), wg_cg (f := m1 40) (g := fun j => sN st j (m0 (43 + 5 * k))) (fun j hj => by rw [v1 j hj, show 42 + 5 * k + 1 = 43 + 5 * k by omega, h.e (by omega)])]
    · simp only [if_neg c]
      exact c_sumOf_l hb hF d (k + 1) N x m (by omega) (by omega) hL h
theorem c_sumOf {F a b : Nat} {st : lS} {m m0 : aM} (hab : a ≤ b) (hb : b < 40) (hL : LC m st) (h : rS m0 m) (hF : 5000 ≤ F) : ∃ m', f_Tab_sumOf F (nI a) (nI b) m = some (sS m0 st (b + 1 - a) a 0, m') ∧ Fr (fun b j => b = 10 ∨ (b = 40 ∧ j < 4)) m m' := by
  unfold f_Tab_sumOf
  rw [if_neg (nI_pos (by omega))]
  exact c_sumOf_l hb hF (b + 1 - a) a F 0 m (by omega) (by omega) hL h
theorem m_sumOf_l {F b t : Nat} {st : lS} {m0 : aM} (hb : b < 40) (hF : 5000 ≤ F) (hr : ∀ k, k < 40 → rw m0 k t) : ∀ (d k N : Nat) (x : Int32) (m : aM), k + d = b + 1 → d < N → ML m st → rS m0 m → ∃ m', ll_Mod_sumOf_5 F N (nI b) x (nI k) m = some (sS m0 st d k x, m') ∧ Fr fSo m m'
  | 0, k, N, x, m, hd, hN, hL, h => by
    obtain ⟨N, rfl⟩ : ∃ k, N = k + 1 := ⟨N - 1, by omega⟩
    refine ⟨m, ?_, Fr.rf⟩
    show lb_Mod_sumOf_5 F (ll_Mod_sumOf_5 F N) (nI b) x (nI k) m = _
    unfold lb_Mod_sumOf_5 sS
    rw [if_pos (nI_lt (by omega) (by omega))]
  | d + 1, k, N, x, m, hd, hN, hL, h => by
    obtain ⟨N, rfl⟩ : ∃ k, N = k + 1 := ⟨N - 1, by omega⟩
    have hk : k < 40 := by omega
    rw [show ll_Mod_sumOf_5 F (N + 1) (nI b) x (nI k) m = lb_Mod_sumOf_5 F (ll_Mod_sumOf_5 F N) (nI b) x (nI k) m from rfl]
    unfold lb_Mod_sumOf_5 b_Mod_sumOf_62 sS
    simp only [if_neg (nI_nlt (a := b) (b := k) (by omega) (by omega)), inb_nI hk (by decide), o_gd_t, nI_clamp (show k < 2 ^ 31 by omega), nI_1, h.e (b := 8473) (by omega), h.e (b := 8475) (by omega)]
    have kd : m0 (42 + 5 * k) 3 = 1 ↔ ¬ m0 8473 k = 0 ∧ m0 8475 k = 1 := (hr k hk).kd (κ := 1) (by decide)
    by_cases c : m0 (42 + 5 * k) 3 = 1
    · have nm : ¬ m0 (42 + 5 * k) 3 = -1 := by rw [c]; decide
      obtain ⟨κ, κ4, w3, w4, w5, w6, _⟩ := (hr k hk).kind nm
      have κ1 : κ = 1 := nI_inj (by omega) (by decide) (w3.symm.trans c)
      obtain ⟨m1, e1, v1, f1⟩ := m_seesOf (F := F) hk hL hF
      simp only [if_pos c, if_neg (kd.mp c).1, if_pos (kd.mp c).2, e1, o_b2_some, m_weigh, o_b_some]
      obtain ⟨m', e2, f2⟩ := m_sumOf_l (m0 := m0) hb hF hr d (k + 1) N (x + (wg (m0 (44 + 5 * k)) - wg (fun j => sN st j (m0 (43 + 5 * k))))) m1 (by omega) (by omega) (hL.fr (fun b j hb => f1 b j (by unfold fL at hb; unfold fSo fV; omega))) (h.tr (fun b j hb => f1 b j (by unfold fSo fV; omega)))
      refine ⟨m', ?_, f1.tr f2⟩
      rw [← e2, wg_cg (f := m1 (8520 + k)) (g := m0 (44 + 5 * k)) (fun j hj => by rw [f1 _ _ (by unfold fSo fV; omega), h _ _ (by omega)]; exact (w6 (Or.inl κ1) j hj).1.symm), wg_cg (f := m1 251) (g := fun j => sN st j (m0 (43 + 5 * k))) (fun j hj => by rw [(v1 j hj).2.2, h.e (by omega)]; exact sN_cg hL hj (fun q hq => (w5 q hq).symm))]
    · simp only [if_neg c]
      by_cases c1 : m0 8473 k = 0
      · simp only [if_pos c1]
        exact m_sumOf_l hb hF hr d (k + 1) N x m (by omega) (by omega) hL h
      · simp only [if_neg c1, if_neg (fun z => c (kd.mpr ⟨c1, z⟩))]
        exact m_sumOf_l hb hF hr d (k + 1) N x m (by omega) (by omega) hL h
theorem m_sumOf {F a b t : Nat} {st : lS} {m m0 : aM} (hab : a ≤ b) (hb : b < 40) (hL : ML m st) (h : rS m0 m) (hr : ∀ k, k < 40 → rw m0 k t) (hF : 5000 ≤ F) : ∃ m', f_Mod_sumOf F (nI a) (nI b) m = some (sS m0 st (b + 1 - a) a 0, m') ∧ Fr fSo m m' := m_sumOf_l hb hF hr (b + 1 - a) a F 0 m (by omega) (by omega) hL h
theorem z_checkSpan (x0 x1 : Int32) (m : aM) : f_Led_checkSpan x0 x1 m = some (if (0 ≤ x0 ∧ x0 ≤ 39) ∧ (0 ≤ x1 ∧ x1 ≤ 39) then (if x0 ≤ x1 then .inl 0 else .inr IAE) else .inr IOB) := by
  unfold f_Led_checkSpan
  simp only [z_range, z_checkKey]
  by_cases c0 : (0 : Int32) ≤ x0 ∧ x0 ≤ 39
  · by_cases c1 : (0 : Int32) ≤ x1 ∧ x1 ≤ 39
    · by_cases c2 : x0 ≤ x1
      · simp only [if_pos c0, if_pos c1, o_tp_inl, if_pos (And.intro c0 c1), if_pos c2, if_pos (And.intro c0.1 c2)]
      · simp only [if_pos c0, if_pos c1, o_tp_inl, o_tp_inr, if_pos (And.intro c0 c1), if_neg c2, if_neg (fun z : 0 ≤ x0 ∧ x0 ≤ x1 => c2 z.2)]
    · simp only [if_pos c0, if_neg c1, o_tp_inl, o_tp_inr, if_neg (fun z : (0 ≤ x0 ∧ x0 ≤ 39) ∧ (0 ≤ x1 ∧ x1 ≤ 39) => c1 z.2)]
  · simp only [if_neg c0, o_tp_inr, if_neg (fun z : (0 ≤ x0 ∧ x0 ≤ 39) ∧ (0 ≤ x1 ∧ x1 ≤ 39) => c0 z.1)]
theorem z_sumI (x1 x2 : Int32) (F : Nat) (m : aM) (hF : 5000 ≤ F) (h : Iv m) : ZX [IOB, IAE] (f_Led_sum F x1 x2) (f_Mod_sum F x1 x2) m := by
  obtain ⟨t, t1, t2, t3, hr⟩ := h.2.2.2.2.2.2.rw
  obtain ⟨st, hL⟩ := h.2.2.1
  unfold ZX f_Led_sum f_Mod_sum b_Mod_sum_22 b_Mod_sum_27 b_Mod_sum_45
  simp only [z_checkSpan, m_isKey, o_let_eq, o_b_some]
  have e1 : Iv (a_st m 242 0 1) ∧ AgP m (a_st m 242 0 1) := h.f0 th_fr
  have e2 : Iv (a_st m 242 0 2) ∧ AgP m (a_st m 242 0 2) := h.f0 th_fr
  by_cases c : ((0 : Int32) ≤ x1 ∧ x1 ≤ 39) ∧ (0 ≤ x2 ∧ x2 ≤ 39)
  case neg =>
    simp only [if_neg c, o_t_inr]
    refine ⟨_, _, rfl, ?_⟩
    by_cases c1 : (0 : Int32) ≤ x1 ∧ x1 ≤ 39
    · simp only [if_pos c1, if_neg (fun z => c ⟨c1, z⟩), if_true, z_bad1 (show (1 : Int32) ≠ 0 by decide), o_b2_some, show ¬ (1 : Int32) = 0 by decide, if_false]
      exact ⟨_, _, rfl, ⟨0, rfl, a_st_self⟩, e1.1, e1.2⟩
    · simp only [if_neg c1, if_true, z_bad1 (show (1 : Int32) ≠ 0 by decide), o_b2_some, show ¬ (1 : Int32) = 0 by decide, if_false]
      exact ⟨_, _, rfl, ⟨0, rfl, a_st_self⟩, e1.1, e1.2⟩
  rw [if_pos c]
  simp only [if_pos c.1, if_pos c.2, show ¬ (1 : Int32) = 0 by decide, if_false]
  obtain ⟨a, a39, rfl⟩ := rng_nat (n := 39) rfl (by decide) c.1
  obtain ⟨b, b39, rfl⟩ := rng_nat (n := 39) rfl (by decide) c.2
  by_cases d : nI a ≤ nI b
  case neg =>
    simp only [if_neg d, o_t_inr]
    refine ⟨_, _, rfl, ?_⟩
    simp only [z_bad0, if_true, z_bad1 (show (2 : Int32) ≠ 0 by decide), o_b2_some, show ¬ (1 : Int32) = 0 by decide, if_false]
    exact ⟨_, _, rfl, ⟨1, rfl, a_st_self⟩, e2.1, e2.2⟩
  have ab : a ≤ b := (nI_leI (by omega) (by omega)).mp d
  obtain ⟨m1, q1, f1⟩ := c_sumOf (F := F) ab (show b < 40 by omega) hL rS.rf hF
  have r1 : rS m (a_st m1 242 0 0) := rS.tr (fun b j hb => f1 b j (by omega)) th_rS
  have fc : Fr sc0 m (a_st m1 242 0 0) := (f1.mono (fun b j hb => by unfold sc0; omega)).tr th_fr
  obtain ⟨m2, q2, f2⟩ := m_sumOf (F := F) ab (show b < 40 by omega) (hL.2.fr (m' := a_st m1 242 0 0) (fun b j hb => fc b j (by unfold fL at hb; unfold sc0; omega))) r1 hr hF
  simp only [if_pos d, o_t_inl, q1, o_b2_some]
  refine ⟨_, _, rfl, ?_⟩
  simp only [z_bad0, o_b2_some, if_true, q2]
  have fr : Fr sc0 m m2 := fc.tr (f2.mono (fun b j hb => by unfold fSo fV at hb; unfold sc0; omega))
  exact ⟨_, _, rfl, ⟨by rw [f2 _ _ (by unfold fSo fV; omega), a_st_self], rfl⟩, (h.f0 fr).1, (h.f0 fr).2⟩
/-- halving -/
def hv (m : aM) (st : lS) : Nat → Nat → Nat → Nat
  | 0, lo, _ => lo
  | d + 1, lo, hi => if hi ≤ lo then lo else if sS m st ((lo + hi) / 2 + 1 - lo) lo 0 = 0 then hv m st d ((lo + hi) / 2 + 1) hi else hv m st d lo ((lo + hi) / 2)
theorem half80 : ∀ s, s < 80 → nI s / 2 = nI (s / 2) := by decide +kernel
theorem c_halve_l {F : Nat} {st : lS} {m0 : aM} (hF : 5000 ≤ F) : ∀ (d i lo hi N : Nat) (m : aM), hi ≤ lo + d → lo ≤ hi → hi < 40 → i + d ≤ 39 → d < N → LC m st → rS m0 m → ∃ m', ll_Tab_halve_19 F N (nI lo) (nI hi) (nI i) m = some (nI (hv m0 st d lo hi), m') ∧ Fr (fun b j => b = 10 ∨ (b = 40 ∧ j < 4)) m m'
  | 0, i, lo, hi, N, m, h1, h2, h3, h4, hN, hL, h => by
    obtain ⟨N, rfl⟩ : ∃ k, N = k + 1 := ⟨N - 1, by omega⟩
    refine ⟨m, ?_, Fr.rf⟩
    show lb_Tab_halve_19 F (ll_Tab_halve_19 F N) (nI lo) (nI hi) (nI i) m = _
    unfold lb_Tab_halve_19 hv
    rw [if_neg (c40 (by omega)), if_pos (nI_le (by omega) (by omega))]
  | d + 1, i, lo, hi, N, m, h1, h2, h3, h4, hN, hL, h => by
    obtain ⟨N, rfl⟩ : ∃ k, N = k + 1 := ⟨N - 1, by omega⟩
    rw [show ll_Tab_halve_19 F (N + 1) (nI lo) (nI hi) (nI i) m = lb_Tab_halve_19 F (ll_Tab_halve_19 F N) (nI lo) (nI hi) (nI i) m from rfl]
    unfold lb_Tab_halve_19 b_Tab_halve_62 hv
    by_cases c : hi ≤ lo
    · rw [if_neg (c40 (by omega)), if_pos (nI_le c (by omega)), if_pos c]
      exact ⟨m, rfl, Fr.rf⟩
    · obtain ⟨m1, q1, f1⟩ := c_sumOf (F := F) (a := lo) (b := (lo + hi) / 2) (by omega) (by omega) hL h hF
      have hL1 : LC m1 st := hL.fr (fun b j hb => f1 b j (by unfold fL at hb; omega))
      have r1 : rS m0 m1 := h.tr (fun b j hb => f1 b j (by omega))
      simp only [if_neg (c40 (show i < 40 by omega)), if_neg (show ¬ nI hi ≤ nI lo from nI_ge (by omega) (by omega)), if_neg c, nI_add, half80 (lo + hi) (by omega), q1, o_b2_some, nI_1]
      by_cases z : sS m0 st ((lo + hi) / 2 + 1 - lo) lo 0 = 0
      · simp only [if_pos z]
        obtain ⟨m', e2, f2⟩ := c_halve_l (m0 := m0) hF d (i + 1) ((lo + hi) / 2 + 1) hi N m1 (by omega) (by omega) (by omega) (by omega) (by omega) hL1 r1
        exact ⟨m', e2, f1.tr f2⟩
      · simp only [if_neg z]
        obtain ⟨m', e2, f2⟩ := c_halve_l (m0 := m0) hF d (i + 1) lo ((lo + hi) / 2) N m1 (by omega) (by omega) (by omega) (by omega) (by omega) hL1 r1
        exact ⟨m', e2, f1.tr f2⟩
theorem m_halve_l {F t : Nat} {st : lS} {m0 : aM} (hF : 5000 ≤ F) (hr : ∀ k, k < 40 → rw m0 k t) : ∀ (d lo hi N : Nat) (m : aM), hi ≤ lo + d → lo ≤ hi → hi < 40 → d < N → ML m st → rS m0 m → ∃ m', ll_Mod_halves_70 F N (nI lo) (nI hi) m = some (nI (hv m0 st d lo hi), m') ∧ Fr fSo m m'
  | 0, lo, hi, N, m, h1, h2, h3, hN, hL, h => by
    obtain ⟨N, rfl⟩ : ∃ k, N = k + 1 := ⟨N - 1, by omega⟩
    refine ⟨m, ?_, Fr.rf⟩
    show lb_Mod_halves_70 F (ll_Mod_halves_70 F N) (nI lo) (nI hi) m = _
    unfold lb_Mod_halves_70 hv
    rw [if_pos (nI_le (by omega) (by omega))]
  | d + 1, lo, hi, N, m, h1, h2, h3, hN, hL, h => by
    obtain ⟨N, rfl⟩ : ∃ k, N = k + 1 := ⟨N - 1, by omega⟩
    rw [show ll_Mod_halves_70 F (N + 1) (nI lo) (nI hi) m = lb_Mod_halves_70 F (ll_Mod_halves_70 F N) (nI lo) (nI hi) m from rfl]
    unfold lb_Mod_halves_70 b_Mod_halves_106 hv
    by_cases c : hi ≤ lo
    · rw [if_pos (nI_le c (by omega)), if_pos c]
      exact ⟨m, rfl, Fr.rf⟩
    · obtain ⟨m1, q1, f1⟩ := m_sumOf (F := F) (a := lo) (b := (lo + hi) / 2) (by omega) (by omega) hL h hr hF
      have hL1 : ML m1 st := hL.fr (fun b j hb => f1 b j (by unfold fL at hb; unfold fSo fV; omega))
      have r1 : rS m0 m1 := h.tr (fun b j hb => f1 b j (by unfold fSo fV; omega))
      simp only [if_neg (show ¬ nI hi ≤ nI lo from nI_ge (by omega) (by omega)), if_neg c, nI_add, half80 (lo + hi) (by omega), q1, o_b2_some, nI_1]
      by_cases z : sS m0 st ((lo + hi) / 2 + 1 - lo) lo 0 = 0
      · simp only [if_pos z]
        obtain ⟨m', e2, f2⟩ := m_halve_l hF hr d ((lo + hi) / 2 + 1) hi N m1 (by omega) (by omega) (by omega) (by omega) hL1 r1
        exact ⟨m', e2, f1.tr f2⟩
      · simp only [if_neg z]
        obtain ⟨m', e2, f2⟩ := m_halve_l hF hr d lo ((lo + hi) / 2) N m1 (by omega) (by omega) (by omega) (by omega) hL1 r1
        exact ⟨m', e2, f1.tr f2⟩
theorem z_halvesI (x1 x2 : Int32) (F : Nat) (m : aM) (hF : 5000 ≤ F) (h : Iv m) : ZX [IOB, IAE] (f_Led_halves F x1 x2) (f_Mod_halves F x1 x2) m := by
  obtain ⟨t, t1, t2, t3, hr⟩ := h.2.2.2.2.2.2.rw
  obtain ⟨st, hL⟩ := h.2.2.1
  unfold ZX f_Led_halves f_Mod_halves b_Mod_halves_22 b_Mod_halves_27 b_Mod_halves_45 f_Tab_halve
  simp only [z_checkSpan, m_isKey, o_let_eq, o_b_some]
  have e1 : Iv (a_st m 242 0 1) ∧ AgP m (a_st m 242 0 1) := h.f0 th_fr
  have e2 : Iv (a_st m 242 0 2) ∧ AgP m (a_st m 242 0 2) := h.f0 th_fr
  by_cases c : ((0 : Int32) ≤ x1 ∧ x1 ≤ 39) ∧ (0 ≤ x2 ∧ x2 ≤ 39)
  case neg =>
    simp only [if_neg c, o_t_inr]
    refine ⟨_, _, rfl, ?_⟩
    by_cases c1 : (0 : Int32) ≤ x1 ∧ x1 ≤ 39
    · simp only [if_pos c1, if_neg (fun z => c ⟨c1, z⟩), if_true, z_bad1 (show (1 : Int32) ≠ 0 by decide), o_b2_some, show ¬ (1 : Int32) = 0 by decide, if_false]
      exact ⟨_, _, rfl, ⟨0, rfl, a_st_self⟩, e1.1, e1.2⟩
    · simp only [if_neg c1, if_true, z_bad1 (show (1 : Int32) ≠ 0 by decide), o_b2_some, show ¬ (1 : Int32) = 0 by decide, if_false]
      exact ⟨_, _, rfl, ⟨0, rfl, a_st_self⟩, e1.1, e1.2⟩
  rw [if_pos c]
  simp only [if_pos c.1, if_pos c.2, show ¬ (1 : Int32) = 0 by decide, if_false]
  obtain ⟨a, a39, rfl⟩ := rng_nat (n := 39) rfl (by decide) c.1
  obtain ⟨b, b39, rfl⟩ := rng_nat (n := 39) rfl (by decide) c.2
  by_cases d : nI a ≤ nI b
  case neg =>
    simp only [if_neg d, o_t_inr]
    refine ⟨_, _, rfl, ?_⟩
    simp only [z_bad0, if_true, z_bad1 (show (2 : Int32) ≠ 0 by decide), o_b2_some, show ¬ (1 : Int32) = 0 by decide, if_false]
    exact ⟨_, _, rfl, ⟨1, rfl, a_st_self⟩, e2.1, e2.2⟩
  have ab : a ≤ b := (nI_leI (by omega) (by omega)).mp d
  obtain ⟨m1, q1, f1⟩ := c_sumOf (F := F) ab (show b < 40 by omega) hL rS.rf hF
  simp only [if_pos d, o_t_inl, q1, o_b2_some]
  by_cases z : sS m st (b + 1 - a) a 0 = 0
  · have r1 : rS m (a_st m1 242 0 0) := rS.tr (fun b j hb => f1 b j (by omega)) th_rS
    have fc : Fr sc0 m (a_st m1 242 0 0) := (f1.mono (fun b j hb => by unfold sc0; omega)).tr th_fr
    obtain ⟨m2, q2, f2⟩ := m_sumOf (F := F) ab (show b < 40 by omega) (hL.2.fr (m' := a_st m1 242 0 0) (fun b j hb => fc b j (by unfold fL at hb; unfold sc0; omega))) r1 hr hF
    simp only [if_pos z, o_b2_some]
    refine ⟨_, _, rfl, ?_⟩
    simp only [z_bad0, o_b2_some, if_true, q2, if_pos z]
    have fr : Fr sc0 m m2 := fc.tr (f2.mono (fun b j hb => by unfold fSo fV at hb; unfold sc0; omega))
    exact ⟨_, _, rfl, ⟨by rw [f2 _ _ (by unfold fSo fV; omega), a_st_self], rfl⟩, (h.f0 fr).1, (h.f0 fr).2⟩
  · obtain ⟨m3, q3, f3⟩ := c_halve_l (F := F) (m0 := m) hF 39 0 a b F m1 (by omega) ab (by omega) (by omega) (by omega) (hL.fr (fun b j hb => f1 b j (by unfold fL at hb; omega))) (fun b j hb => f1 b j (by omega))
    have r1 : rS m (a_st m3 242 0 0) := rS.tr (fun b j hb => (f1.tr f3) b j (by omega)) th_rS
    have fc : Fr sc0 m (a_st m3 242 0 0) := ((f1.tr f3).mono (fun b j hb => by unfold sc0; omega)).tr th_fr
    obtain ⟨m2, q2, f2⟩ := m_sumOf (F := F) ab (show b < 40 by omega) (hL.2.fr (m' := a_st m3 242 0 0) (fun b j hb => fc b j (by unfold fL at hb; unfold sc0; omega))) r1 hr hF
    obtain ⟨m4, q4, f4⟩ := m_halve_l (F := F) (m0 := m) hF hr 39 a b F m2 (by omega) ab (by omega) (by omega) (hL.2.fr (fun b j hb => by unfold fL at hb; rw [f2 b j (by unfold fSo fV; omega), fc b j (by unfold sc0; omega)])) (r1.tr (fun b j hb => f2 b j (by unfold fSo fV; omega)))
    simp only [if_neg z, show ll_Tab_halve_19 F F (nI a) (nI b) 0 m1 = _ from q3, o_b2_some]
    refine ⟨_, _, rfl, ?_⟩
    simp only [z_bad0, o_b2_some, if_true, q2, if_neg z, q4]
    have fr : Fr sc0 m m4 := fc.tr ((f2.tr f4).mono (fun b j hb => by unfold fSo fV at hb; unfold sc0; omega))
    exact ⟨_, _, rfl, ⟨by rw [(f2.tr f4) _ _ (by unfold fSo fV; omega), a_st_self], rfl⟩, (h.f0 fr).1, (h.f0 fr).2⟩
