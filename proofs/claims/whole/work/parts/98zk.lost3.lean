/-! CALLS: lost, the reference's rows, and both -/
theorem m_lo51o {F g r n : Nat} {st : lS} {m0 m : aM} {r35 : Int32 → Int32 → aM → Option (Int32 × aM)} (hL : ML m st) (hg : g < 8192) (h1 : ¬ m 8451 g = 0) (hr : ∀ i, i < 4 → m (259 + g) (i + 4) = bxr m0 r i) (h55 : ∀ i, i < 4 → m 255 i = bxr m0 n i) (d : Nat) : ∀ (l N : Nat) (x : Int32), l + d = 4 → d < N → ll_Mod_lost_51 F r35 N x (nI g) (nI l) m = o_b2 (f_Mod_goesOn F (a_st m 8451 g 1)) fun y m4 => r35 (bL (bfn m0 st r n) d l x) y m4 := by
  induction d with
  | zero =>
    intro l N x hd hN
    obtain ⟨N, rfl⟩ : ∃ k, N = k + 1 := ⟨N - 1, by omega⟩
    obtain rfl : l = 4 := by omega
    rw [bL_z, show ll_Mod_lost_51 F r35 (N + 1) x (nI g) (nI 4) m = lb_Mod_lost_51 F r35 (ll_Mod_lost_51 F r35 N) x (nI g) (nI 4) m from rfl]
    unfold lb_Mod_lost_51
    rw [if_pos (show (4 : Int32) ≤ nI 4 by decide), inb_nI hg (by decide), o_gd_t, o_let_eq, nI_clamp (by omega)]
  | succ d ih =>
    intro l N x hd hN
    obtain ⟨N, rfl⟩ : ∃ k, N = k + 1 := ⟨N - 1, by omega⟩
    have l4 : l < 4 := by omega
    rw [bL_s, ← ih (l + 1) N _ (by omega) (by omega), show ll_Mod_lost_51 F r35 (N + 1) x (nI g) (nI l) m = lb_Mod_lost_51 F r35 (ll_Mod_lost_51 F r35 N) x (nI g) (nI l) m from rfl]
    unfold lb_Mod_lost_51 b_Mod_lost_140
    simp only [if_neg (show ¬ (4 : Int32) ≤ nI l from nI_ge (b := 4) l4 (by decide)), inb_nI hg (by decide), o_gd_t, nI_clamp (show g < 2 ^ 31 by omega), if_neg h1, m_isKept hL l4, o_b_some, show nI l + 4 = nI (l + 4) from nI_add l 4, inb_nI (show l + 4 < 9 by omega) (by decide), nI_clamp (show l + 4 < 2 ^ 31 by omega), o_let_eq, hr l l4, inb_nI l4 (by decide), nI_clamp (show l < 2 ^ 31 by omega), h55 l l4, nI_1]
    by_cases c : st.2.1 l = true
    · rw [if_pos c, if_neg (by decide), if_neg (fun z => (bfn_t.mp z).1 c)]
    · rw [if_neg c, if_pos rfl]
      by_cases e : bxr m0 r l = bxr m0 n l
      · rw [if_pos e, if_neg (fun z => (bfn_t.mp z).2 e)]
      · rw [if_neg e, if_pos (bfn_t.mpr ⟨c, e⟩)]
theorem m_lo51n {F g : Nat} {r35 : Int32 → Int32 → aM → Option (Int32 × aM)} (hg : g < 8192) (d : Nat) : ∀ (l N : Nat) (x : Int32) (m : aM), m 8451 g = 0 → l + d = 4 → d < N → ∃ m', ll_Mod_lost_51 F r35 N x (nI g) (nI l) m = (o_b2 (f_Mod_goesOn F (a_st m' 8451 g 1)) fun y m4 => r35 x y m4) ∧ (∀ i, l ≤ i → i < 4 → m' (259 + g) i = m 251 i ∧ m' (259 + g) (i + 4) = m 255 i) ∧ (∀ i, i < l → m' (259 + g) i = m (259 + g) i ∧ m' (259 + g) (i + 4) = m (259 + g) (i + 4)) ∧ ∀ b j, b ≠ 259 + g → m' b j = m b j := by
  induction d with
  | zero =>
    intro l N x m h1 hd hN
    obtain ⟨N, rfl⟩ : ∃ k, N = k + 1 := ⟨N - 1, by omega⟩
    obtain rfl : l = 4 := by omega
    refine ⟨m, ?_, fun i h1 h2 => by omega, fun i _ => ⟨rfl, rfl⟩, fun _ _ _ => rfl⟩
    rw [show ll_Mod_lost_51 F r35 (N + 1) x (nI g) (nI 4) m = lb_Mod_lost_51 F r35 (ll_Mod_lost_51 F r35 N) x (nI g) (nI 4) m from rfl]
    unfold lb_Mod_lost_51
    rw [if_pos (show (4 : Int32) ≤ nI 4 by decide), inb_nI hg (by decide), o_gd_t, o_let_eq, nI_clamp (by omega)]
  | succ d ih =>
    intro l N x m h1 hd hN
    obtain ⟨N, rfl⟩ : ∃ k, N = k + 1 := ⟨N - 1, by omega⟩
    have l4 : l < 4 := by omega
    obtain ⟨m', e, v, w, f⟩ := ih (l + 1) N x (a_st (a_st m (259 + g) l (m 251 l)) (259 + g) (l + 4) (m 255 l)) (by rw [a_st_ne (by omega), a_st_ne (by omega)]; exact h1) (by omega) (by omega)
    have r1 : ∀ b j, b ≠ 259 + g → a_st (a_st m (259 + g) l (m 251 l)) (259 + g) (l + 4) (m 255 l) b j = m b j := fun b j hb => by rw [a_st_ne hb, a_st_ne hb]
    refine ⟨m', Eq.trans ?_ e, fun i h2 h3 => ?_, fun i hi => ?_, fun b j hb => by rw [f b j hb, r1 b j hb]⟩
    · rw [show ll_Mod_lost_51 F r35 (N + 1) x (nI g) (nI l) m = lb_Mod_lost_51 F r35 (ll_Mod_lost_51 F r35 N) x (nI g) (nI l) m from rfl]
      unfold lb_Mod_lost_51 b_Mod_lost_140
      simp only [if_neg (show ¬ (4 : Int32) ≤ nI l from nI_ge (b := 4) l4 (by decide)), inb_nI hg (by decide), o_gd_t, nI_clamp (show g < 2 ^ 31 by omega), if_pos h1, show nI l + 4 = nI (l + 4) from nI_add l 4, inb_nI (show l + 4 < 9 by omega) (by decide), inb_nI (show l < 9 by omega) (by decide), nI_clamp (show l + 4 < 2 ^ 31 by omega), o_let_eq, inb_nI l4 (by decide), nI_clamp (show l < 2 ^ 31 by omega), nI_1, a_st_ne (show 255 ≠ 259 + g by omega)]
    · by_cases c : i = l
      · rw [c, (w l (by omega)).1, (w l (by omega)).2, a_st_self, a_st_no (by omega), a_st_self]
        exact ⟨rfl, rfl⟩
      · have := v i (by omega) h3
        rw [r1 251 _ (by omega), r1 255 _ (by omega)] at this
        exact this
    · rw [(w i (by omega)).1, (w i (by omega)).2, a_st_no (by omega), a_st_no (by omega), a_st_no (by omega), a_st_no (by omega)]
      exact ⟨rfl, rfl⟩
def fLm : Nat → Nat → Prop := fun b j => fUn b j ∨ 259 ≤ b ∧ b ≤ 8451
theorem m_lost_l {F : Nat} {st : lS} {m0 : aM} (hB : iB m0) (hF : 20000 ≤ F) (d : Nat) : ∀ (n N : Nat) (x : Int32) (m : aM) (T : Nat → Option Nat), n + d = Pd (wd m0) 3 → d < N → ML m st → (∀ i, i < 4 → m 253 i = m0 22 i ∧ m 254 i = m0 23 i) → (0 < d → ∀ i, i < 4 → m 255 i = bxr m0 n i) → RT m0 st n T m → ∃ m', ll_Mod_lost_35 F N x (if 0 < d then 1 else 0) m = some (loF m0 st d n x, m') ∧ Fr fLm m m' := by
  have P := Pd_8 (w := wd m0) (fun j hj => ⟨(hB.wx hj).1, (hB.wx hj).2.1⟩)
  induction d with
  | zero =>
    intro n N x m T hd hN hL hm h hT
    obtain ⟨N, rfl⟩ : ∃ k, N = k + 1 := ⟨N - 1, by omega⟩
    exact ⟨m, rfl, Fr.rf⟩
  | succ d ih =>
    intro n N x m T hd hN hL hm h hT
    obtain ⟨N, rfl⟩ : ∃ k, N = k + 1 := ⟨N - 1, by omega⟩
    have h := h (by omega)
    obtain ⟨m1, e1, v1, f1⟩ := m_seesRow (F := F) hL h (by omega)
    have hL1 : ML m1 st := hL.fr (fun b j hb => f1 b j (by unfold fL at hb; unfold fMx fV; omega))
    have hT1 : RT m0 st n T m1 := ⟨hT.1, fun p hp => by rw [f1 _ _ (by unfold fMx fV; omega)]; exact hT.2.1 p hp, fun p r i e hi => by
      have := hT.1.1 p r e
      rw [f1 _ _ (by unfold fMx fV; omega), f1 _ _ (by unfold fMx fV; omega)]; exact hT.2.2 p r i e hi⟩
    have h1 : ∀ i, i < 4 → m1 255 i = bxr m0 n i := fun i hi => by rw [f1 _ _ (by unfold fMx fV; omega)]; exact h i hi
    obtain ⟨g, eg, g8, cs⟩ := m_group (F := F) hF (show n < 4096 by omega) hL1 hT1 (fun j hj => (v1 j hj).1) (fun j hj => (v1 j hj).2)
    -- the group is met, or made
    have key : ∃ m2 T2, ll_Mod_lost_51 F (ll_Mod_lost_35 F N) F x (nI g) 0 m1 = (o_b2 (f_Mod_goesOn F (a_st m2 8451 g 1)) fun y m4 => ll_Mod_lost_35 F N (bL (bfn m0 st (fsL (lkR m0 st) n) n) 4 0 x) y m4) ∧ RT m0 st (n + 1) T2 (a_st m2 8451 g 1) ∧ ∀ b j, ¬ (259 ≤ b ∧ b ≤ 8450) → m2 b j = m1 b j := by
      rcases cs with ⟨c1, c2, c3⟩ | ⟨r, c1, c2, c3, c4⟩
      · obtain ⟨m2, e2, v2, _, f2⟩ := m_lo51n (F := F) (r35 := ll_Mod_lost_35 F N) g8 4 0 F x m1 (by rw [hT1.2.1 g g8, if_pos c1]) (by omega) (by omega)
        have fs : fsL (lkR m0 st) n = n := fsL_eq lkR_E (Nat.le_refl n) (lkR_E.1 n) c2
        refine ⟨m2, updD T g n, ?_, ⟨c3, fun p hp => ?_, fun p r i e hi => ?_⟩, fun b j hb => f2 b j (by omega)⟩
        · rw [fs, bL_no (fun l => by
            cases q : bfn m0 st n n l with
            | false => rfl
            | true => exact absurd rfl (bfn_t.mp q).2)]
          exact e2
        · rw [a_rd]
          unfold updD
          by_cases q : p = g
          · rw [if_pos ⟨rfl, q⟩, if_pos q, if_neg (by simp)]
          · rw [if_neg (fun z => q z.2), if_neg q, f2 _ _ (by omega)]
            exact hT1.2.1 p hp
        · have p8 := (c3.1 p r e).1
          unfold updD at e
          rw [a_st_ne (by omega)]
          by_cases q : p = g
          · rw [if_pos q] at e
            rw [q, (v2 i (by omega) hi).1, (v2 i (by omega) hi).2, ← Option.some.inj e, (v1 i hi).1, h1 i hi]
            exact ⟨rfl, rfl⟩
          · rw [if_neg q] at e
            rw [f2 _ _ (by omega), f2 _ _ (by omega)]
            exact hT1.2.2 p r i e hi
      · have fs : fsL (lkR m0 st) n = r := fsL_eq lkR_E (by omega) c3 c4
        have o1 : m1 8451 g = 1 := by rw [hT1.2.1 g g8, c1, if_neg (by simp)]
        have e2 := m_lo51o (F := F) (r35 := ll_Mod_lost_35 F N) (n := n) hL1 g8 (by rw [o1]; decide) (fun i hi => (hT1.2.2 g r i c1 hi).2) h1 4 0 F x (by omega) (by omega)
        refine ⟨m1, T, by rw [fs]; exact e2, ?_, fun _ _ _ => rfl⟩
        rw [a_st_id o1]
        exact ⟨hT1.1.old c3 c2, hT1.2⟩
    obtain ⟨m2, T2, e2, hT2, f2⟩ := key
    have lt : (n + 1 < Pd (wd m0) 3) = (0 < d) := propext (by omega)
    have r2 : ∀ b j, ¬ (259 ≤ b ∧ b ≤ 8451) → a_st m2 8451 g 1 b j = m1 b j := fun b j hb => by rw [a_st_ne (by omega), f2 b j (by omega)]
    obtain ⟨m3, e3, v3, f3⟩ := m_go (F := F) (n := n) (m := a_st m2 8451 g 1) hB (by omega) (fun i hi => by rw [r2 _ _ (by omega), r2 _ _ (by omega), f1 _ _ (by unfold fMx fV; omega), f1 _ _ (by unfold fMx fV; omega)]; exact hm i hi) (fun i hi => by rw [r2 _ _ (by omega)]; exact h1 i hi) (by omega)
    simp only [lt] at e3 v3
    have hL3 : ML m3 st := hL1.fr (fun b j hb => by unfold fL at hb; rw [f3 b j (by omega), r2 b j (by omega)])
    obtain ⟨m4, e4, f4⟩ := ih (n + 1) N (bL (bfn m0 st (fsL (lkR m0 st) n) n) 4 0 x) m3 T2 (by omega) (by omega) hL3 (fun i hi => by rw [f3 _ _ (by omega), f3 _ _ (by omega), r2 _ _ (by omega), r2 _ _ (by omega), f1 _ _ (by unfold fMx fV; omega), f1 _ _ (by unfold fMx fV; omega)]; exact hm i hi) v3 ⟨hT2.1, fun p hp => by rw [f3 _ _ (by omega)]; exact hT2.2.1 p hp, fun p r i e hi => by rw [f3 _ _ (by omega), f3 _ _ (by omega)]; exact hT2.2.2 p r i e hi⟩
    refine ⟨m4, ?_, Fr.tr (P := fLm) (m1 := m3) (fun b j hb => ?_) f4⟩
    · rw [if_pos (show 0 < d + 1 by omega), show ll_Mod_lost_35 F (N + 1) x 1 m = lb_Mod_lost_35 F (ll_Mod_lost_35 F N) x 1 m from rfl]
      unfold lb_Mod_lost_35
      rw [if_neg (by decide), e1, o_b2_some, eg, o_b_some, e2, e3, o_b2_some, e4]
      rfl
    · have n1 : ¬ fMx b j := fun z => hb (Or.inl (Or.inl z))
      have n2 : ¬ (259 ≤ b ∧ b ≤ 8451) := fun z => hb (Or.inr z)
      have n3 : ¬ ((b = 255 ∨ b = 257) ∧ j < 4) := fun z => hb (Or.inl (Or.inr z))
      rw [f3 b j (by omega), r2 b j n2, f1 b j n1]
theorem m_lo9 {F : Nat} {x : Int32} : ∀ (d i N : Nat) (m : aM), i + d = 8192 → d < N → ∃ m2, ll_Mod_lost_9 F N x (nI i) m = (o_b2 (f_Mod_begin F m2) fun _ m3 => ll_Mod_lost_35 F F x 1 m3) ∧ (∀ p, i ≤ p → p < 8192 → m2 8451 p = 0) ∧ Fr (fun b j => b = 8451 ∧ i ≤ j) m m2
  | 0, i, N, m, hd, hN => by
    obtain ⟨N, rfl⟩ : ∃ k, N = k + 1 := ⟨N - 1, by omega⟩
    obtain rfl : i = 8192 := by omega
    refine ⟨m, ?_, fun p h1 h2 => by omega, Fr.rf⟩
    show lb_Mod_lost_9 F (ll_Mod_lost_9 F N) x (nI 8192) m = _
    unfold lb_Mod_lost_9
    rw [if_pos (show (8192 : Int32) ≤ nI 8192 by decide)]
  | d + 1, i, N, m, hd, hN => by
    obtain ⟨N, rfl⟩ : ∃ k, N = k + 1 := ⟨N - 1, by omega⟩
    obtain ⟨m2, e, v, f⟩ := m_lo9 (F := F) (x := x) d (i + 1) N (a_st m 8451 i 0) (by omega) (by omega)
    refine ⟨m2, Eq.trans ?_ e, fun p h1 h2 => ?_, Fr.sto (f.mono (fun b j hb => by omega)) (by omega)⟩
    · show lb_Mod_lost_9 F (ll_Mod_lost_9 F N) x (nI i) m = _
      unfold lb_Mod_lost_9
      rw [if_neg (show ¬ (8192 : Int32) ≤ nI i from nI_ge (b := 8192) (by omega) (by decide)), inb_nI (show i < 8192 by omega) (by decide), o_gd_t, o_let_eq, nI_clamp (by omega), show nI i + 1 = nI (i + 1) from nI_add i 1]
    · by_cases c : p = i
      · rw [c, f _ _ (by omega), a_st_self]
      · exact v p (by omega) h2
/-- lost, once Likes is there -/
theorem z_lostI (F a0 : Nat) (m : aM) (hF : 20000 ≤ F) (ha : 8692 ≤ a0) (h : Iv m) : ∃ r m1, b_Box_lostLetters_18 F a0 m = some (r, m1) ∧ ∃ m2, f_Mod_lost F m1 = some (r, m2) ∧ Iv m2 ∧ (∀ b j, (b = 29 ∧ (j = 5 ∨ j = 6 ∨ j = 7)) ∨ (30 ≤ b ∧ b ≤ 34) → m2 b j = m b j) ∧ ∀ b j, 8692 ≤ b → b ≠ a0 + 1 → b ≠ a0 + 2 → m2 b j = m b j := by
  have hB := h.2.2.2.1
  obtain ⟨st, hL⟩ := h.2.2.1
  have P := Pd_8 (w := wd m) (fun j hj => ⟨(hB.wx hj).1, (hB.wx hj).2.1⟩)
  obtain ⟨m1, e1, v1, f1⟩ := c_forget (F := F) (a0 := a0) 8192 0 F m (by omega) (by omega)
  have hB1 : iB m1 := hB.fr (fun b j hb => f1 b j (by omega))
  have bx : f_Box_manyBoxed F m1 = some (nI (Pd (wd m) 3)) := by
    rw [c_boxed hB1 (by omega)]
    congr 2
    have : wd m1 = wd m := funext fun j => by unfold wd; rw [f1 _ _ (by omega), f1 _ _ (by omega)]
    rw [this]
  obtain ⟨m2, e2, f2⟩ := c_lost_l (F := F) (a0 := a0) (st := st) hB hF ha (Pd (wd m) 3) 0 F 0 m1 (fun _ => none) (by omega) (by omega) (hL.fr (fun b j hb => f1 b j (by unfold fL at hb; omega))) (fun i hi => ⟨f1 _ _ (by omega), f1 _ _ (by omega)⟩) ⟨HT.z, fun p hp => v1 p (by omega) hp, fun r i hr => by omega⟩
  have e3 : b_Box_lostLetters_18 F a0 m = some (loF m st (Pd (wd m) 3) 0 0, m2) := by
    unfold b_Box_lostLetters_18 f_Lik_forget
    rw [show ll_Lik_forget_2 F F a0 0 m = _ from e1, o_b2_some, bx, o_b_some]
    exact e2
  have fc : ∀ b j, ¬ sc0 b j → b ≠ a0 + 1 → b ≠ a0 + 2 → a_st m2 242 0 0 b j = m b j := fun b j h1 h2 h3 => by
    rw [th_fr b j h1, f2 b j (fun z => z.elim (fun z => h1 (fBx_sc z)) (fun z => z.elim h2 h3)), f1 b j (by omega)]
  obtain ⟨m3, e4, v4, f4⟩ := m_lo9 (F := F) (x := 0) 8192 0 F (a_st m2 242 0 0) (by omega) (by omega)
  have hm : ∀ i, i < 4 → m3 253 i = m 22 i ∧ m3 254 i = m 23 i := fun i hi => by
    rw [f4 _ _ (by omega), f4 _ _ (by omega), fc _ _ (by unfold sc0; omega) (by omega) (by omega), fc _ _ (by unfold sc0; omega) (by omega) (by omega)]
    exact ⟨(hB i hi).1.symm, (hB i hi).2.1.symm⟩
  obtain ⟨m4, e5, v5, f5⟩ := m_begin (F := F) (m := m3) (m0 := m) (fun i hi => (hm i hi).1) (by omega)
  obtain ⟨m5, e6, f6⟩ := m_lost_l (F := F) (st := st) hB hF (Pd (wd m) 3) 0 F 0 m4 (fun _ => none) (by omega) (by omega) (hL.2.fr (fun b j hb => by unfold fL at hb; rw [f5 b j (by omega), f4 b j (by omega), fc b j (by unfold sc0; omega) (by omega) (by omega)])) (fun i hi => by rw [f5 _ _ (by omega), f5 _ _ (by omega)]; exact hm i hi) (fun _ => v5) ⟨HT.z, fun p hp => by rw [f5 _ _ (by omega), v4 p (by omega) hp, if_pos rfl], fun p r i e => absurd e (by simp)⟩
  rw [if_pos (show 0 < Pd (wd m) 3 by omega)] at e6
  have e7 : f_Mod_lost F m2 = some (loF m st (Pd (wd m) 3) 0 0, m5) := by
    unfold f_Mod_lost
    rw [o_let_eq, show ll_Mod_lost_9 F F 0 0 (a_st m2 242 0 0) = _ from e4, e5, o_b2_some]
    exact e6
  have fr : ∀ b j, ¬ sc0 b j → b ≠ a0 + 1 → b ≠ a0 + 2 → m5 b j = m b j := fun b j h1 h2 h3 => by
    rw [f6 b j (fun z => z.elim (fun z => h1 (fUn_sc z)) (fun z => h1 (by unfold sc0; omega))), f5 b j (fun z => h1 (by unfold sc0; omega)), f4 b j (fun z => h1 (by unfold sc0; omega))]
    exact fc b j h1 h2 h3
  exact ⟨_, m2, e3, m5, e7, h.fr (fun b j hb => fr b j (fun z => hb (by unfold sc0 at z; unfold sc; omega)) (fun z => hb (by unfold sc; omega)) (fun z => hb (by unfold sc; omega))), fun b j hb => fr b j (by unfold sc0; omega) (by omega) (by omega), fun b j h1 h2 h3 => fr b j (by unfold sc0; omega) h2 h3⟩
