/-! CALLS: agree, unlike, wrong -/
def fBx : Nat → Nat → Prop := fun b j => b = 10 ∨ (24 ≤ b ∧ b ≤ 28 ∧ j < 4)
theorem c_see {F n : Nat} {st : lS} {m m0 : aM} (hB : iB m0) (hL : LC m st) (hn : n ≤ 4096) (hm : ∀ i, i < 4 → m 22 i = m0 22 i ∧ m 23 i = m0 23 i) (hF : 5000 ≤ F) : ∃ m', f_Box_seeRow F (nI n) m = some (0, m') ∧ (∀ j, j < 4 → m' 24 j = bxr m0 n j ∧ m' 25 j = sN st j (bxr m0 n) ∧ m' 26 j = sK st j (bxr m0 n)) ∧ Fr fBx m m' := by
  obtain ⟨m1, e1, v1, f1⟩ := c_fill (F := F) (a := 24) hB (by omega) hn hm hF
  have hL1 : LC m1 st := hL.fr (fun b j hb => f1 b j (by unfold fL at hb; omega))
  obtain ⟨u, ds⟩ := hL1.1
  obtain ⟨m2, e2, v2, f2⟩ := c_toNew (F := F) (a1 := 24) (a2 := 25) ds (by omega) (by omega) (by omega) (by omega)
  obtain ⟨m3, e3, v3, f3⟩ := c_toBeside (F := F) (a1 := 24) (a2 := 26) (ds.st (m' := m2) (fun b j b1 b2 => f2 b j (by omega))) (by omega) (by omega) (by omega)
  unfold f_Box_seeRow
  rw [e1, o_b2_some, e2, o_b2_some, e3, o_b2_some]
  have e24 : ∀ j, j < 4 → m2 24 j = bxr m0 n j := fun j hj => by rw [f2 _ _ (by omega)]; exact v1 j hj
  refine ⟨m3, rfl, fun j hj => ⟨?_, ?_, ?_⟩, ((f1.mono (fun b j hb => by unfold fBx; omega)).tr (f2.mono (fun b j hb => by unfold fBx; omega))).tr (f3.mono (fun b j hb => by unfold fBx; omega))⟩
  · rw [f3 _ _ (by omega)]; exact e24 j hj
  · rw [f3 _ _ (by omega), v2 j hj]; exact sN_cg hL.2 hj v1
  · rw [v3 j hj]; exact sK_cg hj e24
/-- a row that comes back -/
def agP (st : lS) (f : Nat) (r : Nat → Int32) : Prop := ∀ j, j < 4 → if f = 0 then sO st j (fun i => sK st i r) (fun i => sN st i r) = r j else sN st j (fun i => sO st i (fun i => sK st i r) (fun i => sN st i r)) = sN st j r
noncomputable def agB (st : lS) (f : Nat) (r : Nat → Int32) : Bool := @decide (agP st f r) (Classical.propDecidable _)
theorem agB_t {st : lS} {f : Nat} {r : Nat → Int32} : agB st f r = true ↔ agP st f r := by simp [agB]
theorem agP_cg {m : aM} {st : lS} (h : ML m st) {f : Nat} {r r' : Nat → Int32} (e : ∀ j, j < 4 → r j = r' j) : agP st f r ↔ agP st f r' := by
  have a1 : ∀ j, j < 4 → sK st j r = sK st j r' := fun j hj => sK_cg hj e
  have a2 : ∀ j, j < 4 → sN st j r = sN st j r' := fun j hj => sN_cg h hj e
  have a3 : ∀ j, j < 4 → sO st j (fun i => sK st i r) (fun i => sN st i r) = sO st j (fun i => sK st i r') (fun i => sN st i r') := fun j hj => sO_cg h hj a1 a2
  have a4 : ∀ j, j < 4 → sN st j (fun i => sO st i (fun i => sK st i r) (fun i => sN st i r)) = sN st j (fun i => sO st i (fun i => sK st i r') (fun i => sN st i r')) := fun j hj => sN_cg h hj a3
  unfold agP
  constructor
  · intro z j hj
    have := z j hj
    rw [a3 j hj, a4 j hj, a2 j hj, e j hj] at this
    exact this
  · intro z j hj
    rw [a3 j hj, a4 j hj, a2 j hj, e j hj]
    exact z j hj
theorem c_comes {F n f : Nat} {st : lS} {m m0 : aM} (hB : iB m0) (hL : LC m st) (hn : n ≤ 4096) (hf : f < 2) (hm : ∀ i, i < 4 → m 22 i = m0 22 i ∧ m 23 i = m0 23 i) (hF : 5000 ≤ F) : ∃ m', f_Box_comesBack F (nI n) (nI f) m = some (if agB st f (bxr m0 n) = true then 1 else 0, m') ∧ (∀ j, j < 4 → m' 24 j = bxr m0 n j) ∧ Fr fBx m m' := by
  obtain ⟨m1, e1, v1, f1⟩ := c_see (F := F) hB hL hn hm hF
  have hL1 : LC m1 st := hL.fr (fun b j hb => f1 b j (by unfold fL at hb; unfold fBx; omega))
  obtain ⟨u, ds⟩ := hL1.1
  obtain ⟨m2, e2, v2, f2⟩ := c_toOld (F := F) (a1 := 25) (a2 := 26) (a3 := 27) ds (by omega) (by omega) (by omega) (by omega) (by omega) (by omega)
  have q27 : ∀ j, j < 4 → m2 27 j = sO st j (fun i => sK st i (bxr m0 n)) (fun i => sN st i (bxr m0 n)) := fun j hj => by
    rw [v2 j hj]
    exact sO_cg hL.2 hj (fun i hi => (v1 i hi).2.2) (fun i hi => (v1 i hi).2.1)
  unfold f_Box_comesBack
  rw [e1, o_b2_some, e2, o_b2_some]
  have hff : f = 0 ∨ f = 1 := by omega
  rcases hff with rfl | rfl
  · obtain ⟨y, e3, y1, y2⟩ := c_alike (F := F) (a0 := 27) (a1 := 24) (m := m2) (by omega)
    have iff1 : y = 1 ↔ agB st 0 (bxr m0 n) = true := by
      rw [y2, agB_t]
      unfold agP
      refine forall_congr' fun j => forall_congr' fun hj => ?_
      rw [if_pos rfl, q27 j hj, f2 _ _ (by omega), (v1 j hj).1]
    rw [if_pos (show nI 0 = 0 from rfl), e3, o_b_some]
    refine ⟨m2, ?_, fun j hj => by rw [f2 _ _ (by omega)]; exact (v1 j hj).1, f1.tr (f2.mono (fun b j hb => by unfold fBx; omega))⟩
    rcases y1 with rfl | rfl
    · rw [if_neg (fun z => absurd (iff1.mpr z) (by decide))]; rfl
    · rw [if_pos (iff1.mp rfl)]; rfl
  · have hL2 : LC m2 st := hL1.fr (fun b j hb => f2 b j (by unfold fL at hb; omega))
    obtain ⟨u2, ds2⟩ := hL2.1
    obtain ⟨m3, e3, v3, f3⟩ := c_toNew (F := F) (a1 := 27) (a2 := 28) ds2 (by omega) (by omega) (by omega) (by omega)
    obtain ⟨y, e4, y1, y2⟩ := c_alike (F := F) (a0 := 28) (a1 := 25) (m := m3) (by omega)
    have iff1 : y = 1 ↔ agB st 1 (bxr m0 n) = true := by
      rw [y2, agB_t]
      unfold agP
      refine forall_congr' fun j => forall_congr' fun hj => ?_
      rw [if_neg (by decide), v3 j hj, f3 _ _ (by omega), f2 _ _ (by omega), (v1 j hj).2.1, sN_cg hL.2 hj q27]
    rw [if_neg (show ¬ nI 1 = 0 by decide), e3, o_b2_some, e4, o_b_some]
    refine ⟨m3, ?_, fun j hj => by rw [f3 _ _ (by omega), f2 _ _ (by omega)]; exact (v1 j hj).1, (f1.tr (f2.mono (fun b j hb => by unfold fBx; omega))).tr (f3.mono (fun b j hb => by unfold fBx; omega))⟩
    rcases y1 with rfl | rfl
    · rw [if_neg (fun z => absurd (iff1.mpr z) (by decide))]; rfl
    · rw [if_pos (iff1.mp rfl)]; rfl
/-- the reference's row -/
def fMx : Nat → Nat → Prop := fun b j => fV b j ∨ ((b = 249 ∨ b = 250 ∨ b = 251 ∨ b = 252 ∨ b = 256) ∧ j < 4)
theorem m_seesRow31_l {F : Nat} {st : lS} : ∀ (d i N : Nat) (m : aM), i + d = 4 → d < N → ML m st → (∀ j, j < i → m 256 j = sK st j (m 255)) → ∃ m', ll_Mod_seesRow_31 F N (nI i) m = some (0, m') ∧ (∀ j, j < 4 → m' 256 j = sK st j (m 255)) ∧ Fr (fun b j => b = 256 ∧ j < 4) m m'
  | 0, i, N, m, hd, hN, hL, h => by
    obtain ⟨N, rfl⟩ : ∃ k, N = k + 1 := ⟨N - 1, by omega⟩
    obtain rfl : i = 4 := by omega
    exact ⟨m, rfl, h, Fr.rf⟩
  | d + 1, i, N, m, hd, hN, hL, h => by
    obtain ⟨N, rfl⟩ : ∃ k, N = k + 1 := ⟨N - 1, by omega⟩
    obtain ⟨m', e, h1, f1⟩ := m_seesRow31_l (F := F) (st := st) d (i + 1) N (a_st m 256 i (sK st i (m 255))) (by omega) (by omega) (hL.fr (fun b j hb => by rw [a_st_ne (by unfold fL at hb; omega)])) (fun j hj => by
      rw [show a_st m 256 i (sK st i (m 255)) 255 = m 255 from a_st_ne (by decide)]
      by_cases c : j = i
      · rw [c, a_st_self]
      · rw [a_st_no (by omega)]; exact h j (by omega))
    rw [show a_st m 256 i (sK st i (m 255)) 255 = m 255 from a_st_ne (by decide)] at h1
    refine ⟨m', ?_, h1, Fr.sto f1 ⟨rfl, by omega⟩⟩
    rw [← e, show ll_Mod_seesRow_31 F (N + 1) (nI i) m = lb_Mod_seesRow_31 F (ll_Mod_seesRow_31 F N) (nI i) m from rfl]
    unfold lb_Mod_seesRow_31 b_Mod_seesRow_59 sK
    simp only [if_neg (show ¬ (4 : Int32) ≤ nI i from nI_ge (b := 4) (by omega) (by decide)), m_isKept hL (show i < 4 by omega), o_b_some, inb_nI (show i < 4 by omega) (by decide), o_gd_t, o_let_eq, nI_clamp (show i < 2 ^ 31 by omega), nI_1]
    by_cases c : st.2.1 i = true
    · simp only [if_pos c, show ¬ (1 : Int32) = 0 by decide, if_false]
    · simp only [if_neg c, if_true]
theorem m_seesRow2_l {F : Nat} : ∀ (d i N : Nat) (m : aM), i + d = 4 → d < N → (∀ j, j < i → m 249 j = m 255 j) → ∃ m', ll_Mod_seesRow_2 F N (nI i) m = (o_b2 (f_Mod_sees F m') fun _ m2 => ll_Mod_seesRow_31 F F 0 m2) ∧ (∀ j, j < 4 → m' 249 j = m 255 j) ∧ Fr (fun b j => b = 249 ∧ j < 4) m m'
  | 0, i, N, m, hd, hN, h => by
    obtain ⟨N, rfl⟩ : ∃ k, N = k + 1 := ⟨N - 1, by omega⟩
    obtain rfl : i = 4 := by omega
    exact ⟨m, rfl, h, Fr.rf⟩
  | d + 1, i, N, m, hd, hN, h => by
    obtain ⟨N, rfl⟩ : ∃ k, N = k + 1 := ⟨N - 1, by omega⟩
    obtain ⟨m', e, h1, f1⟩ := m_seesRow2_l (F := F) d (i + 1) N (a_st m 249 i (m 255 i)) (by omega) (by omega) (fun j hj => by
      rw [a_st_ne (b := 255) (by decide)]
      by_cases c : j = i
      · rw [c, a_st_self]
      · rw [a_st_no (by omega)]; exact h j (by omega))
    refine ⟨m', ?_, fun j hj => (h1 j hj).trans (by rw [a_st_ne (by decide)]), Fr.sto f1 ⟨rfl, by omega⟩⟩
    rw [← e, show ll_Mod_seesRow_2 F (N + 1) (nI i) m = lb_Mod_seesRow_2 F (ll_Mod_seesRow_2 F N) (nI i) m from rfl]
    unfold lb_Mod_seesRow_2
    simp only [if_neg (show ¬ (4 : Int32) ≤ nI i from nI_ge (b := 4) (by omega) (by decide)), inb_nI (show i < 4 by omega) (by decide), o_gd_t, o_let_eq, nI_clamp (show i < 2 ^ 31 by omega), nI_1]
theorem m_seesRow {F : Nat} {st : lS} {m : aM} {r : Nat → Int32} (hL : ML m st) (hr : ∀ j, j < 4 → m 255 j = r j) (hF : 5000 ≤ F) : ∃ m', f_Mod_seesRow F m = some (0, m') ∧ (∀ j, j < 4 → m' 251 j = sN st j r ∧ m' 256 j = sK st j r) ∧ Fr fMx m m' := by
  obtain ⟨m1, e1, v1, f1⟩ := m_seesRow2_l (F := F) 4 0 F m (by omega) (by omega) (fun j hj => by omega)
  have hL1 : ML m1 st := hL.fr (fun b j hb => f1 b j (by unfold fL at hb; omega))
  obtain ⟨m2, e2, v2, f2⟩ := m_sees (F := F) hL1 hF
  have hL2 : ML m2 st := hL1.fr (fun b j hb => f2 b j (by unfold fL at hb; unfold fV; omega))
  obtain ⟨m3, e3, v3, f3⟩ := m_seesRow31_l (F := F) (st := st) 4 0 F m2 (by omega) (by omega) hL2 (fun j hj => by omega)
  unfold f_Mod_seesRow
  rw [show ll_Mod_seesRow_2 F F 0 m = _ from e1, e2, o_b2_some, show ll_Mod_seesRow_31 F F 0 m2 = _ from e3]
  refine ⟨m3, rfl, fun j hj => ⟨?_, ?_⟩, ((f1.mono (fun b j hb => by unfold fMx; omega)).tr (f2.mono (fun b j hb => by unfold fV at hb; unfold fMx fV; omega))).tr (f3.mono (fun b j hb => by unfold fMx; omega))⟩
  · rw [f3 _ _ (by omega), v2 j hj]
    exact sN_cg hL hj (fun i hi => (v1 i hi).trans (hr i hi))
  · rw [v3 j hj]
    exact sK_cg hj (fun i hi => by rw [f2 _ _ (by unfold fV; omega), f1 _ _ (by omega)]; exact hr i hi)
theorem m_ag6_l {F f : Nat} : ∀ (d i N : Nat) (m : aM), i + d = 4 → d < N → (∀ j, j < i → m 250 j = m 251 j ∧ m 249 j = m 256 j) → ∃ m', ll_Mod_agreesAt_6 F N (nI f) (nI i) m = (o_b2 (f_Mod_puts F m') fun _ m2 => if nI f = 0 then ll_Mod_agreesAt_51 F F 0 m2 else ll_Mod_agreesAt_83 F F 0 m2) ∧ (∀ j, j < 4 → m' 250 j = m 251 j ∧ m' 249 j = m 256 j) ∧ Fr (fun b j => (b = 249 ∨ b = 250) ∧ j < 4) m m'
  | 0, i, N, m, hd, hN, h => by
    obtain ⟨N, rfl⟩ : ∃ k, N = k + 1 := ⟨N - 1, by omega⟩
    obtain rfl : i = 4 := by omega
    exact ⟨m, rfl, h, Fr.rf⟩
  | d + 1, i, N, m, hd, hN, h => by
    obtain ⟨N, rfl⟩ : ∃ k, N = k + 1 := ⟨N - 1, by omega⟩
    obtain ⟨m', e, h1, f1⟩ := m_ag6_l (F := F) (f := f) d (i + 1) N (a_st (a_st m 250 i (m 251 i)) 249 i (m 256 i)) (by omega) (by omega) (fun j hj => by
      rw [a_st_ne (b := 251) (by omega), a_st_ne (b := 251) (by omega), a_st_ne (b := 256) (by omega), a_st_ne (b := 256) (by omega)]
      by_cases c : j = i
      · rw [c, a_st_self, a_st_ne (b := 250) (by decide), a_st_self]; exact ⟨rfl, rfl⟩
      · rw [a_st_no (by omega), a_st_no (by omega), a_st_no (by omega), a_st_no (by omega)]; exact h j (by omega))
    refine ⟨m', ?_, fun j hj => ?_, Fr.sto (Fr.sto f1 ⟨Or.inl rfl, by omega⟩) ⟨Or.inr rfl, by omega⟩⟩
    · rw [← e, show ll_Mod_agreesAt_6 F (N + 1) (nI f) (nI i) m = lb_Mod_agreesAt_6 F (ll_Mod_agreesAt_6 F N) (nI f) (nI i) m from rfl]
      unfold lb_Mod_agreesAt_6
      simp only [if_neg (show ¬ (4 : Int32) ≤ nI i from nI_ge (b := 4) (by omega) (by decide)), inb_nI (show i < 4 by omega) (by decide), o_gd_t, o_let_eq, nI_clamp (show i < 2 ^ 31 by omega), nI_1, a_st_ne (show 256 ≠ 250 by omega)]
    · obtain ⟨q1, q2⟩ := h1 j hj
      rw [a_st_ne (b := 251) (by omega), a_st_ne (b := 251) (by omega)] at q1
      rw [a_st_ne (b := 256) (by omega), a_st_ne (b := 256) (by omega)] at q2
      exact ⟨q1, q2⟩
theorem m_ag51_l {F : Nat} {m : aM} : ∀ (d i N : Nat), i + d = 4 → d < N → ∃ y, ll_Mod_agreesAt_51 F N (nI i) m = some (y, m) ∧ (y = 0 ∨ y = 1) ∧ (y = 1 ↔ ∀ j, i ≤ j → j < 4 → m 252 j = m 255 j)
  | 0, i, N, hd, hN => by
    obtain ⟨N, rfl⟩ : ∃ k, N = k + 1 := ⟨N - 1, by omega⟩
    obtain rfl : i = 4 := by omega
    exact ⟨1, rfl, Or.inr rfl, ⟨fun _ j h1 h2 => by omega, fun _ => rfl⟩⟩
  | d + 1, i, N, hd, hN => by
    obtain ⟨N, rfl⟩ : ∃ k, N = k + 1 := ⟨N - 1, by omega⟩
    rw [show ll_Mod_agreesAt_51 F (N + 1) (nI i) m = lb_Mod_agreesAt_51 F (ll_Mod_agreesAt_51 F N) (nI i) m from rfl]
    unfold lb_Mod_agreesAt_51
    simp only [if_neg (show ¬ (4 : Int32) ≤ nI i from nI_ge (b := 4) (by omega) (by decide)), inb_nI (show i < 4 by omega) (by decide), o_gd_t, nI_clamp (show i < 2 ^ 31 by omega), nI_1]
    by_cases c : m 252 i = m 255 i
    · obtain ⟨y, e, y1, y2⟩ := m_ag51_l (F := F) (m := m) d (i + 1) N (by omega) (by omega)
      rw [if_pos c]
      refine ⟨y, e, y1, y2.trans ⟨fun z j h1 h2 => ?_, fun z j h1 h2 => z j (by omega) h2⟩⟩
      by_cases q : j = i
      · rw [q]; exact c
      · exact z j (by omega) h2
    · rw [if_neg c]
      exact ⟨0, rfl, Or.inl rfl, ⟨fun z => absurd z (by decide), fun z => absurd (z i (by omega) (by omega)) c⟩⟩
theorem m_ag112_l {F : Nat} {m : aM} : ∀ (d i N : Nat), i + d = 4 → d < N → ∃ y, ll_Mod_agreesAt_112 F N (nI i) m = some (y, m) ∧ (y = 0 ∨ y = 1) ∧ (y = 1 ↔ ∀ j, i ≤ j → j < 4 → m 251 j = m 250 j)
  | 0, i, N, hd, hN => by
    obtain ⟨N, rfl⟩ : ∃ k, N = k + 1 := ⟨N - 1, by omega⟩
    obtain rfl : i = 4 := by omega
    exact ⟨1, rfl, Or.inr rfl, ⟨fun _ j h1 h2 => by omega, fun _ => rfl⟩⟩
  | d + 1, i, N, hd, hN => by
    obtain ⟨N, rfl⟩ : ∃ k, N = k + 1 := ⟨N - 1, by omega⟩
    rw [show ll_Mod_agreesAt_112 F (N + 1) (nI i) m = lb_Mod_agreesAt_112 F (ll_Mod_agreesAt_112 F N) (nI i) m from rfl]
    unfold lb_Mod_agreesAt_112
    simp only [if_neg (show ¬ (4 : Int32) ≤ nI i from nI_ge (b := 4) (by omega) (by decide)), inb_nI (show i < 4 by omega) (by decide), o_gd_t, nI_clamp (show i < 2 ^ 31 by omega), nI_1]
    by_cases c : m 251 i = m 250 i
    · obtain ⟨y, e, y1, y2⟩ := m_ag112_l (F := F) (m := m) d (i + 1) N (by omega) (by omega)
      rw [if_pos c]
      refine ⟨y, e, y1, y2.trans ⟨fun z j h1 h2 => ?_, fun z j h1 h2 => z j (by omega) h2⟩⟩
      by_cases q : j = i
      · rw [q]; exact c
      · exact z j (by omega) h2
    · rw [if_neg c]
      exact ⟨0, rfl, Or.inl rfl, ⟨fun z => absurd z (by decide), fun z => absurd (z i (by omega) (by omega)) c⟩⟩
theorem m_ag83_l {F : Nat} : ∀ (d i N : Nat) (m : aM), i + d = 4 → d < N → (∀ j, j < i → m 249 j = m 252 j) → ∃ m', ll_Mod_agreesAt_83 F N (nI i) m = (o_b2 (f_Mod_sees F m') fun _ m2 => ll_Mod_agreesAt_112 F F 0 m2) ∧ (∀ j, j < 4 → m' 249 j = m 252 j) ∧ Fr (fun b j => b = 249 ∧ j < 4) m m'
  | 0, i, N, m, hd, hN, h => by
    obtain ⟨N, rfl⟩ : ∃ k, N = k + 1 := ⟨N - 1, by omega⟩
    obtain rfl : i = 4 := by omega
    exact ⟨m, rfl, h, Fr.rf⟩
  | d + 1, i, N, m, hd, hN, h => by
    obtain ⟨N, rfl⟩ : ∃ k, N = k + 1 := ⟨N - 1, by omega⟩
    obtain ⟨m', e, h1, f1⟩ := m_ag83_l (F := F) d (i + 1) N (a_st m 249 i (m 252 i)) (by omega) (by omega) (fun j hj => by
      rw [a_st_ne (b := 252) (by decide)]
      by_cases c : j = i
      · rw [c, a_st_self]
      · rw [a_st_no (by omega)]; exact h j (by omega))
    refine ⟨m', ?_, fun j hj => (h1 j hj).trans (by rw [a_st_ne (by decide)]), Fr.sto f1 ⟨rfl, by omega⟩⟩
    rw [← e, show ll_Mod_agreesAt_83 F (N + 1) (nI i) m = lb_Mod_agreesAt_83 F (ll_Mod_agreesAt_83 F N) (nI i) m from rfl]
    unfold lb_Mod_agreesAt_83
    simp only [if_neg (show ¬ (4 : Int32) ≤ nI i from nI_ge (b := 4) (by omega) (by decide)), inb_nI (show i < 4 by omega) (by decide), o_gd_t, o_let_eq, nI_clamp (show i < 2 ^ 31 by omega), nI_1]
theorem m_agrees {F f : Nat} {st : lS} {m : aM} {r : Nat → Int32} (hL : ML m st) (hf : f < 2) (hr : ∀ j, j < 4 → m 255 j = r j) (hF : 5000 ≤ F) : ∃ m', f_Mod_agreesAt F (nI f) m = some (if agB st f r = true then 1 else 0, m') ∧ Fr fMx m m' := by
  obtain ⟨m1, e1, v1, f1⟩ := m_seesRow (F := F) hL hr hF
  have hL1 : ML m1 st := hL.fr (fun b j hb => f1 b j (by unfold fL at hb; unfold fMx fV; omega))
  obtain ⟨m2, e2, v2, f2⟩ := m_ag6_l (F := F) (f := f) 4 0 F m1 (by omega) (by omega) (fun j hj => by omega)
  have hL2 : ML m2 st := hL1.fr (fun b j hb => f2 b j (by unfold fL at hb; omega))
  obtain ⟨m3, e3, v3, f3⟩ := m_puts (F := F) hL2 hF
  have hL3 : ML m3 st := hL2.fr (fun b j hb => f3 b j (by unfold fL at hb; unfold fV; omega))
  have q252 : ∀ j, j < 4 → m3 252 j = sO st j (fun i => sK st i r) (fun i => sN st i r) := fun j hj => by
    rw [v3 j hj]
    exact sO_cg hL hj (fun i hi => (v2 i hi).2.trans (v1 i hi).2) (fun i hi => (v2 i hi).1.trans (v1 i hi).1)
  have fr3 : Fr fMx m m3 := (f1.tr (f2.mono (fun b j hb => by unfold fMx; omega))).tr (f3.mono (fun b j hb => by unfold fV at hb; unfold fMx fV; omega))
  unfold f_Mod_agreesAt
  rw [e1, o_b2_some, show ll_Mod_agreesAt_6 F F (nI f) 0 m1 = _ from e2, e3, o_b2_some]
  have hff : f = 0 ∨ f = 1 := by omega
  rcases hff with rfl | rfl
  · obtain ⟨y, e4, y1, y2⟩ := m_ag51_l (F := F) (m := m3) 4 0 F (by omega) (by omega)
    have iff1 : y = 1 ↔ agB st 0 r = true := by
      rw [y2, agB_t]
      unfold agP
      constructor
      · intro z j hj
        rw [if_pos rfl, ← q252 j hj, z j (by omega) hj, fr3 _ _ (by unfold fMx fV; omega)]
        exact hr j hj
      · intro z j _ hj
        have := z j hj
        rw [if_pos rfl, ← q252 j hj] at this
        rw [this, fr3 _ _ (by unfold fMx fV; omega)]
        exact (hr j hj).symm
    rw [if_pos (show nI 0 = 0 from rfl), show ll_Mod_agreesAt_51 F F 0 m3 = _ from e4]
    refine ⟨m3, ?_, fr3⟩
    rcases y1 with rfl | rfl
    · rw [if_neg (fun z => absurd (iff1.mpr z) (by decide))]
    · rw [if_pos (iff1.mp rfl)]
  · obtain ⟨m4, e4, v4, f4⟩ := m_ag83_l (F := F) 4 0 F m3 (by omega) (by omega) (fun j hj => by omega)
    have hL4 : ML m4 st := hL3.fr (fun b j hb => f4 b j (by unfold fL at hb; omega))
    obtain ⟨m5, e5, v5, f5⟩ := m_sees (F := F) hL4 hF
    obtain ⟨y, e6, y1, y2⟩ := m_ag112_l (F := F) (m := m5) 4 0 F (by omega) (by omega)
    have q251 : ∀ j, j < 4 → m5 251 j = sN st j (fun i => sO st i (fun i => sK st i r) (fun i => sN st i r)) := fun j hj => by
      rw [v5 j hj]
      exact sN_cg hL hj (fun i hi => (v4 i hi).trans (q252 i hi))
    have q250 : ∀ j, j < 4 → m5 250 j = sN st j r := fun j hj => by
      rw [f5 _ _ (by unfold fV; omega), f4 _ _ (by omega), f3 _ _ (by unfold fV; omega)]
      exact (v2 j hj).1.trans (v1 j hj).1
    have iff1 : y = 1 ↔ agB st 1 r = true := by
      rw [y2, agB_t]
      unfold agP
      constructor
      · intro z j hj
        rw [if_neg (by decide), ← q251 j hj, z j (by omega) hj, q250 j hj]
      · intro z j _ hj
        have := z j hj
        rw [if_neg (by decide), ← q251 j hj] at this
        rw [this, q250 j hj]
    rw [if_neg (show ¬ nI 1 = 0 by decide), show ll_Mod_agreesAt_83 F F 0 m3 = _ from e4, e5, o_b2_some, show ll_Mod_agreesAt_112 F F 0 m5 = _ from e6]
    refine ⟨m5, ?_, (fr3.tr (f4.mono (fun b j hb => by unfold fMx; omega))).tr (f5.mono (fun b j hb => by unfold fV at hb; unfold fMx fV; omega))⟩
    rcases y1 with rfl | rfl
    · rw [if_neg (fun z => absurd (iff1.mpr z) (by decide))]
    · rw [if_pos (iff1.mp rfl)]
