/-! COUNTS of rows -/
def cb (P : Nat → Bool) : Nat → Nat → Int32 → Int32
  | 0, _, x => x
  | d + 1, k, x => cb P d (k + 1) (x + if P k = true then 1 else 0)
theorem cb_cg {P Q : Nat → Bool} : ∀ d k x, k + d = 40 → (∀ j, j < 40 → P j = Q j) → cb P d k x = cb Q d k x
  | 0, _, _, _, _ => rfl
  | d + 1, k, x, hd, h => by
    unfold cb
    rw [h k (by omega)]
    exact cb_cg d (k + 1) _ (by omega) h
def kdB (m : aM) (κ : Nat) (k : Nat) : Bool := decide (m (42 + 5 * k) 3 = nI κ)
def brB (m : aM) (k : Nat) : Bool := decide (¬ m (42 + 5 * k) 3 = -1 ∧ ¬ m (42 + 5 * k) 4 = -1)
def thB (m : aM) (k : Nat) : Bool := decide (¬ m (42 + 5 * k) 3 = -1)
noncomputable def odB (m : aM) (st : lS) (k : Nat) : Bool := @decide (odP m st k) (Classical.propDecidable _)
theorem odB_t {m : aM} {st : lS} {k : Nat} : odB m st k = true ↔ odP m st k := by simp [odB]
theorem c40 {k : Nat} (h : k < 40) : ¬ (40 : Int32) ≤ nI k := nI_ge (b := 40) h (by decide)
theorem c_manyOf_l {F κ : Nat} {m : aM} : ∀ (d k N : Nat) (x : Int32), k + d = 40 → d < N → ll_Tab_manyOf_4 F N (nI κ) x (nI k) m = some (cb (kdB m κ) d k x)
  | 0, k, N, x, hd, hN => by
    obtain ⟨N, rfl⟩ : ∃ k, N = k + 1 := ⟨N - 1, by omega⟩
    obtain rfl : k = 40 := by omega
    rfl
  | d + 1, k, N, x, hd, hN => by
    obtain ⟨N, rfl⟩ : ∃ k, N = k + 1 := ⟨N - 1, by omega⟩
    show lb_Tab_manyOf_4 F (ll_Tab_manyOf_4 F N) (nI κ) x (nI k) m = _
    unfold lb_Tab_manyOf_4 b_Tab_manyOf_29 cb kdB
    simp only [if_neg (c40 (show k < 40 by omega)), inb_nI (show k < 40 by omega) (by decide), o_gd_t, rwp_n (show k < 40 by omega), nI_1, decide_eq_true_eq]
    by_cases c : m (42 + 5 * k) 3 = nI κ
    · rw [if_pos c, if_pos c]; exact c_manyOf_l d (k + 1) N _ (by omega) (by omega)
    · rw [if_neg c, if_neg c]; exact c_manyOf_l d (k + 1) N _ (by omega) (by omega)
theorem c_manyOf {F κ : Nat} {m : aM} (hF : 50 ≤ F) : f_Tab_manyOf F (nI κ) m = some (cb (kdB m κ) 40 0 0) := c_manyOf_l 40 0 F 0 (by omega) (by omega)
theorem rw.kd {m : aM} {k t κ : Nat} (h : rw m k t) (hκ : κ < 4) : m (42 + 5 * k) 3 = nI κ ↔ ¬ m 8473 k = 0 ∧ m 8475 k = nI κ := by
  rcases h.2 with ⟨h1, h2⟩ | ⟨h1, κ', k4, h3, h4, _⟩
  · rw [h2]
    refine ⟨fun z => ?_, fun z => absurd h1 z.1⟩
    have := congrArg Int32.toInt z
    rw [nI_toInt (by omega)] at this
    have e : (-1 : Int32).toInt = -1 := rfl
    omega
  · rw [h3, h4, h1]
    exact ⟨fun z => ⟨by decide, z⟩, fun z => z.2⟩
theorem rw.th {m : aM} {k t : Nat} (h : rw m k t) : m (42 + 5 * k) 3 = -1 ↔ m 8473 k = 0 := by
  rcases h.2 with ⟨h1, h2⟩ | ⟨h1, κ', k4, h3, h4, _⟩
  · exact ⟨fun _ => h1, fun _ => h2⟩
  · rw [h3, h1]
    refine ⟨fun z => ?_, fun z => absurd z (by decide)⟩
    have := congrArg Int32.toInt z
    rw [nI_toInt (by omega)] at this
    have e : (-1 : Int32).toInt = -1 := rfl
    omega
theorem m_many_l {F κ t : Nat} {m : aM} (hr : ∀ k, k < 40 → rw m k t) (hκ : κ < 4) : ∀ (d k N : Nat) (x : Int32), k + d = 40 → d < N → ll_Mod_many_4 F N (nI κ) x (nI k) m = some (cb (kdB m κ) d k x)
  | 0, k, N, x, hd, hN => by
    obtain ⟨N, rfl⟩ : ∃ k, N = k + 1 := ⟨N - 1, by omega⟩
    obtain rfl : k = 40 := by omega
    rfl
  | d + 1, k, N, x, hd, hN => by
    obtain ⟨N, rfl⟩ : ∃ k, N = k + 1 := ⟨N - 1, by omega⟩
    have q := (hr k (by omega)).kd hκ
    show lb_Mod_many_4 F (ll_Mod_many_4 F N) (nI κ) x (nI k) m = _
    unfold lb_Mod_many_4 b_Mod_many_34 b_Mod_many_35 cb kdB
    simp only [if_neg (c40 (show k < 40 by omega)), inb_nI (show k < 40 by omega) (by decide), o_gd_t, nI_clamp (show k < 2 ^ 31 by omega), nI_1, decide_eq_true_eq]
    by_cases c1 : m 8473 k = 0
    · rw [if_pos c1, if_neg (fun z => (q.mp z).1 c1)]; exact m_many_l hr hκ d (k + 1) N _ (by omega) (by omega)
    · rw [if_neg c1]
      by_cases c2 : m 8475 k = nI κ
      · rw [if_pos c2, if_pos (q.mpr ⟨c1, c2⟩)]; exact m_many_l hr hκ d (k + 1) N _ (by omega) (by omega)
      · rw [if_neg c2, if_neg (fun z => c2 (q.mp z).2)]; exact m_many_l hr hκ d (k + 1) N _ (by omega) (by omega)
theorem m_many {F κ t : Nat} {m : aM} (hr : ∀ k, k < 40 → rw m k t) (hκ : κ < 4) (hF : 50 ≤ F) : f_Mod_many F (nI κ) m = some (cb (kdB m κ) 40 0 0) := m_many_l hr hκ 40 0 F 0 (by omega) (by omega)
theorem c_broken {m : aM} {k : Nat} : f_Row_isBroken (42 + 5 * k) m = some (if brB m k = true then 1 else 0) := by
  unfold f_Row_isBroken brB
  by_cases c1 : m (42 + 5 * k) 3 = -1 <;> by_cases c2 : m (42 + 5 * k) 4 = -1 <;> simp [c1, c2]
theorem c_manyBroken_l {F : Nat} {m : aM} : ∀ (d k N : Nat) (x : Int32), k + d = 40 → d < N → ll_Tab_manyBroken_4 F N x (nI k) m = some (cb (brB m) d k x)
  | 0, k, N, x, hd, hN => by
    obtain ⟨N, rfl⟩ : ∃ k, N = k + 1 := ⟨N - 1, by omega⟩
    obtain rfl : k = 40 := by omega
    rfl
  | d + 1, k, N, x, hd, hN => by
    obtain ⟨N, rfl⟩ : ∃ k, N = k + 1 := ⟨N - 1, by omega⟩
    show lb_Tab_manyBroken_4 F (ll_Tab_manyBroken_4 F N) x (nI k) m = _
    unfold lb_Tab_manyBroken_4 b_Tab_manyBroken_28 cb
    simp only [if_neg (c40 (show k < 40 by omega)), inb_nI (show k < 40 by omega) (by decide), o_gd_t, rwp_n (show k < 40 by omega), nI_1, c_broken, o_b_some]
    by_cases c : brB m k = true
    · simp only [if_pos c, show ¬ (1 : Int32) = 0 by decide, if_false]; exact c_manyBroken_l d (k + 1) N _ (by omega) (by omega)
    · simp only [if_neg c, if_true]; exact c_manyBroken_l d (k + 1) N _ (by omega) (by omega)
theorem c_manyBroken {F : Nat} {m : aM} (hF : 50 ≤ F) : f_Tab_manyBroken F m = some (cb (brB m) 40 0 0) := c_manyBroken_l 40 0 F 0 (by omega) (by omega)
theorem rw.br {m : aM} {k t : Nat} (h : rw m k t) : brB m k = true ↔ ¬ m 8473 k = 0 ∧ ¬ m 8474 k = 0 := by
  have th := h.th
  unfold brB
  rw [decide_eq_true_eq, th]
  rcases h.2 with ⟨h1, h2⟩ | ⟨h1, κ', k4, h3, h4, h5, h6, h7, _⟩
  · exact ⟨fun z => absurd h1 z.1, fun z => absurd h1 z.1⟩
  · refine ⟨fun z => ⟨z.1, fun q => ?_⟩, fun z => ⟨z.1, fun q => ?_⟩⟩
    · rcases h7 with ⟨a1, a2, a3⟩ | ⟨a1, a2, a3, a4, a5⟩
      · exact z.2 a2
      · rw [a1] at q; exact absurd q (by decide)
    · rcases h7 with ⟨a1, a2, a3⟩ | ⟨a1, a2, a3, a4, a5⟩
      · exact z.2 a1
      · exact a4 q
theorem m_broken_l {F t : Nat} {m : aM} (hr : ∀ k, k < 40 → rw m k t) : ∀ (d k N : Nat) (x : Int32), k + d = 40 → d < N → ll_Mod_brokenOnes_4 F N x (nI k) m = some (cb (brB m) d k x)
  | 0, k, N, x, hd, hN => by
    obtain ⟨N, rfl⟩ : ∃ k, N = k + 1 := ⟨N - 1, by omega⟩
    obtain rfl : k = 40 := by omega
    rfl
  | d + 1, k, N, x, hd, hN => by
    obtain ⟨N, rfl⟩ : ∃ k, N = k + 1 := ⟨N - 1, by omega⟩
    have q := (hr k (by omega)).br
    show lb_Mod_brokenOnes_4 F (ll_Mod_brokenOnes_4 F N) x (nI k) m = _
    unfold lb_Mod_brokenOnes_4 b_Mod_brokenOnes_33 b_Mod_brokenOnes_34 cb
    simp only [if_neg (c40 (show k < 40 by omega)), inb_nI (show k < 40 by omega) (by decide), o_gd_t, nI_clamp (show k < 2 ^ 31 by omega), nI_1]
    by_cases c1 : m 8473 k = 0
    · rw [if_pos c1, if_neg (fun z => (q.mp z).1 c1)]; exact m_broken_l hr d (k + 1) N _ (by omega) (by omega)
    · rw [if_neg c1]
      by_cases c2 : m 8474 k = 0
      · rw [if_pos c2, if_neg (fun z => (q.mp z).2 c2)]; exact m_broken_l hr d (k + 1) N _ (by omega) (by omega)
      · rw [if_neg c2, if_pos (q.mpr ⟨c1, c2⟩)]; exact m_broken_l hr d (k + 1) N _ (by omega) (by omega)
theorem m_broken {F t : Nat} {m : aM} (hr : ∀ k, k < 40 → rw m k t) (hF : 50 ≤ F) : f_Mod_brokenOnes F m = some (cb (brB m) 40 0 0) := m_broken_l hr 40 0 F 0 (by omega) (by omega)
/-- rows stay -/
def rS (m m' : aM) : Prop := ∀ b j, (42 ≤ b ∧ b ≤ 241) ∨ (8473 ≤ b ∧ b ≤ 8641) → m' b j = m b j
theorem rS.rf {m : aM} : rS m m := fun _ _ _ => rfl
theorem rS.tr {m m1 m2 : aM} (h : rS m m1) (k : rS m1 m2) : rS m m2 := fun b j hb => (k b j hb).trans (h b j hb)
theorem rS.rw {m m' : aM} (h : rS m m') {t : Nat} (hr : ∀ k, k < 40 → rw m k t) : ∀ k, k < 40 → rw m' k t := fun k hk => (hr k hk).fr hk (fun b j hb => h b j (by omega))
theorem odB_rS {m m' : aM} {st : lS} {k : Nat} (h : rS m m') (hk : k < 40) : odB m' st k = odB m st k := by
  rw [Bool.eq_iff_iff, odB_t, odB_t]
  unfold odP
  have e : m' (43 + 5 * k) = m (43 + 5 * k) := funext fun j => h _ _ (by omega)
  rw [h (42 + 5 * k) 3 (by omega), e]
  exact ⟨fun z => ⟨z.1, fun q => z.2 (fun j hj => by rw [h _ _ (by omega)]; exact q j hj)⟩, fun z => ⟨z.1, fun q => z.2 (fun j hj => by rw [← h _ _ (by omega)]; exact q j hj)⟩⟩
theorem c_manyOdd_l {F : Nat} {st : lS} {m0 : aM} (hF : 5000 ≤ F) : ∀ (d k N : Nat) (x : Int32) (m : aM), k + d = 40 → d < N → LC m st → rS m0 m → ∃ m', ll_Tab_manyOdd_4 F N x (nI k) m = some (cb (odB m0 st) d k x, m') ∧ Fr (fun b j => b = 10 ∨ (b = 40 ∧ j < 4)) m m'
  | 0, k, N, x, m, hd, hN, hL, h => by
    obtain ⟨N, rfl⟩ : ∃ k, N = k + 1 := ⟨N - 1, by omega⟩
    obtain rfl : k = 40 := by omega
    exact ⟨m, rfl, Fr.rf⟩
  | d + 1, k, N, x, m, hd, hN, hL, h => by
    obtain ⟨N, rfl⟩ : ∃ k, N = k + 1 := ⟨N - 1, by omega⟩
    obtain ⟨y, m1, e1, y1, y2, f1⟩ := c_isOdd (F := F) (show k < 40 by omega) hL hF
    have e0 : ll_Tab_manyOdd_4 F (N + 1) x (nI k) m = lb_Tab_manyOdd_4 F (ll_Tab_manyOdd_4 F N) x (nI k) m := rfl
    rw [e0]
    unfold lb_Tab_manyOdd_4 b_Tab_manyOdd_29 cb
    simp only [if_neg (c40 (show k < 40 by omega)), inb_nI (show k < 40 by omega) (by decide), o_gd_t, rwp_n (show k < 40 by omega), nI_1, e1, o_b2_some]
    have hb : odB m0 st k = true ↔ y = 1 := by rw [← odB_rS h (show k < 40 by omega), odB_t, y2]
    obtain ⟨m', e2, f2⟩ := c_manyOdd_l (m0 := m0) hF d (k + 1) N (x + if odB m0 st k = true then 1 else 0) m1 (by omega) (by omega) (hL.fr (fun b j hb => f1 b j (by unfold fL at hb; omega))) (h.tr (fun b j hb => f1 b j (by omega)))
    refine ⟨m', ?_, f1.tr f2⟩
    rw [← e2]
    rcases y1 with rfl | rfl
    · rw [if_pos rfl, if_neg (fun z => absurd (hb.mp z) (by decide))]
    · rw [if_neg (by decide), if_pos (hb.mpr rfl)]
theorem c_manyOdd {F : Nat} {st : lS} {m : aM} (hL : LC m st) (hF : 5000 ≤ F) : ∃ m', f_Tab_manyOdd F m = some (cb (odB m st) 40 0 0, m') ∧ Fr (fun b j => b = 10 ∨ (b = 40 ∧ j < 4)) m m' := c_manyOdd_l hF 40 0 F 0 m (by omega) (by omega) hL rS.rf
theorem m_odd_l {F t : Nat} {st : lS} {m0 : aM} (hF : 5000 ≤ F) (hr : ∀ k, k < 40 → rw m0 k t) : ∀ (d k N : Nat) (x : Int32) (m : aM), k + d = 40 → d < N → ML m st → rS m0 m → ∃ m', ll_Mod_oddOnes_4 F N x (nI k) m = some (cb (odB m0 st) d k x, m') ∧ Fr fSo m m'
  | 0, k, N, x, m, hd, hN, hL, h => by
    obtain ⟨N, rfl⟩ : ∃ k, N = k + 1 := ⟨N - 1, by omega⟩
    obtain rfl : k = 40 := by omega
    exact ⟨m, rfl, Fr.rf⟩
  | d + 1, k, N, x, m, hd, hN, hL, h => by
    obtain ⟨N, rfl⟩ : ∃ k, N = k + 1 := ⟨N - 1, by omega⟩
    obtain ⟨y, m1, e1, y1, y2, f1⟩ := m_isOdd (F := F) (show k < 40 by omega) (h.rw hr k (by omega)) hL hF
    have e0 : ll_Mod_oddOnes_4 F (N + 1) x (nI k) m = lb_Mod_oddOnes_4 F (ll_Mod_oddOnes_4 F N) x (nI k) m := rfl
    rw [e0]
    unfold lb_Mod_oddOnes_4 b_Mod_oddOnes_24 cb
    simp only [if_neg (c40 (show k < 40 by omega)), nI_1, e1, o_b2_some]
    have hb : odB m0 st k = true ↔ y = 1 := by rw [← odB_rS h (show k < 40 by omega), odB_t, y2]
    obtain ⟨m', e2, f2⟩ := m_odd_l hF hr d (k + 1) N (x + if odB m0 st k = true then 1 else 0) m1 (by omega) (by omega) (hL.fr (fun b j hb => f1 b j (by unfold fL at hb; unfold fSo fV; omega))) (h.tr (fun b j hb => f1 b j (by unfold fSo fV; omega)))
    refine ⟨m', ?_, f1.tr f2⟩
    rw [← e2]
    rcases y1 with rfl | rfl
    · rw [if_pos rfl, if_neg (fun z => absurd (hb.mp z) (by decide))]
    · rw [if_neg (by decide), if_pos (hb.mpr rfl)]
theorem m_odd {F t : Nat} {st : lS} {m m0 : aM} (h : rS m0 m) (hr : ∀ k, k < 40 → rw m0 k t) (hL : ML m st) (hF : 5000 ≤ F) : ∃ m', f_Mod_oddOnes F m = some (cb (odB m0 st) 40 0 0, m') ∧ Fr fSo m m' := m_odd_l hF hr 40 0 F 0 m (by omega) (by omega) hL h
/-- all that are there -/
theorem c_manyRows_l {F : Nat} {m : aM} : ∀ (d k N : Nat) (x : Int32), k + d = 40 → d < N → ll_Tab_manyRows_4 F N x (nI k) m = some (cb (thB m) d k x)
  | 0, k, N, x, hd, hN => by
    obtain ⟨N, rfl⟩ : ∃ k, N = k + 1 := ⟨N - 1, by omega⟩
    obtain rfl : k = 40 := by omega
    rfl
  | d + 1, k, N, x, hd, hN => by
    obtain ⟨N, rfl⟩ : ∃ k, N = k + 1 := ⟨N - 1, by omega⟩
    show lb_Tab_manyRows_4 F (ll_Tab_manyRows_4 F N) x (nI k) m = _
    unfold lb_Tab_manyRows_4 b_Tab_manyRows_29 cb thB
    simp only [if_neg (c40 (show k < 40 by omega)), inb_nI (show k < 40 by omega) (by decide), o_gd_t, rwp_n (show k < 40 by omega), nI_1, decide_eq_true_eq]
    by_cases c : m (42 + 5 * k) 3 = -1
    · rw [if_pos c, if_neg (fun z => z c)]; exact c_manyRows_l d (k + 1) N _ (by omega) (by omega)
    · rw [if_neg c, if_pos c]; exact c_manyRows_l d (k + 1) N _ (by omega) (by omega)
theorem cb_x {P : Nat → Bool} : ∀ d k x, cb P d k x = x + cb P d k 0
  | 0, _, x => by simp [cb]
  | d + 1, k, x => by
    unfold cb
    rw [cb_x d (k + 1) (x + _), cb_x d (k + 1) (0 + _), Int32.zero_add, Int32.add_assoc]
theorem cb_4 {m : aM} {t : Nat} (hr : ∀ k, k < 40 → rw m k t) : ∀ d k, k + d = 40 → cb (thB m) d k 0 = cb (kdB m 0) d k 0 + cb (kdB m 1) d k 0 + cb (kdB m 2) d k 0 + cb (kdB m 3) d k 0
  | 0, _, _ => rfl
  | d + 1, k, hd => by
    unfold cb
    rw [cb_x d (k + 1) (0 + if thB m k = true then 1 else 0), cb_x d (k + 1) (0 + if kdB m 0 k = true then 1 else 0), cb_x d (k + 1) (0 + if kdB m 1 k = true then 1 else 0), cb_x d (k + 1) (0 + if kdB m 2 k = true then 1 else 0), cb_x d (k + 1) (0 + if kdB m 3 k = true then 1 else 0), cb_4 hr d (k + 1) (by omega)]
    generalize cb (kdB m 0) d (k + 1) 0 = a
    generalize cb (kdB m 1) d (k + 1) 0 = b
    generalize cb (kdB m 2) d (k + 1) 0 = c
    generalize cb (kdB m 3) d (k + 1) 0 = e
    unfold thB kdB
    have cm : ∀ x y z w : Int32, x + y + z + w = x + (y + (z + w)) := fun x y z w => by rw [Int32.add_assoc, Int32.add_assoc]
    have sw : ∀ x y z : Int32, x + (y + z) = y + (x + z) := fun x y z => by rw [← Int32.add_assoc, Int32.add_comm x y, Int32.add_assoc]
    rcases (hr k (by omega)).2 with ⟨_, h2⟩ | ⟨_, κ, k4, h3, _⟩
    · rw [h2]
      simp [show ¬ (-1 : Int32) = nI 0 by decide, show ¬ (-1 : Int32) = nI 1 by decide, show ¬ (-1 : Int32) = nI 2 by decide, show ¬ (-1 : Int32) = nI 3 by decide]
    · rw [h3]
      match κ, k4 with
      | 0, _ => simp [show ¬ nI 0 = -1 by decide, show ¬ nI 0 = nI 1 by decide, show ¬ nI 0 = nI 2 by decide, show ¬ nI 0 = nI 3 by decide, Int32.add_assoc]
      | 1, _ => simp [show ¬ nI 1 = -1 by decide, show ¬ nI 1 = nI 0 by decide, show ¬ nI 1 = nI 2 by decide, show ¬ nI 1 = nI 3 by decide, Int32.add_assoc]; rw [sw 1 a]
      | 2, _ => simp [show ¬ nI 2 = -1 by decide, show ¬ nI 2 = nI 0 by decide, show ¬ nI 2 = nI 1 by decide, show ¬ nI 2 = nI 3 by decide, Int32.add_assoc]; rw [sw 1 a, sw 1 b]
      | 3, _ => simp [show ¬ nI 3 = -1 by decide, show ¬ nI 3 = nI 0 by decide, show ¬ nI 3 = nI 1 by decide, show ¬ nI 3 = nI 2 by decide, Int32.add_assoc]; rw [sw 1 a, sw 1 b, sw 1 c]
