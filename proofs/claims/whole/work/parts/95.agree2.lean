/-! CALLS: agree, unlike, wrong, the loops -/
def cu (P : Nat → Bool) : Nat → Nat → Nat
  | 0, _ => 0
  | d + 1, n => (if P n = true then 0 else 1) + cu P d (n + 1)
def fu (P : Nat → Bool) : Nat → Nat → Option Nat
  | 0, _ => none
  | d + 1, n => if P n = true then fu P d (n + 1) else some n
theorem cu_fu {P : Nat → Bool} : ∀ d n, cu P d n = 0 ↔ fu P d n = none
  | 0, n => by simp [cu, fu]
  | d + 1, n => by
    unfold cu fu
    by_cases c : P n = true
    · rw [if_pos c, if_pos c, Nat.zero_add]; exact cu_fu d (n + 1)
    · rw [if_neg c, if_neg c]; simp
theorem cu_le {P : Nat → Bool} : ∀ d n, cu P d n ≤ d
  | 0, n => Nat.le_refl _
  | d + 1, n => by
    unfold cu
    have := cu_le (P := P) d (n + 1)
    split <;> omega
theorem c_unlike_l {F f : Nat} {st : lS} {m0 : aM} (hB : iB m0) (hf : f < 2) (hF : 5000 ≤ F) : ∀ (d n c N : Nat) (m : aM), n + d = Pd (wd m0) 3 → d < N → LC m st → (∀ i, i < 4 → m 22 i = m0 22 i ∧ m 23 i = m0 23 i) → ∃ m', ll_Box_manyUnlike_10 F N (nI f) (nI (Pd (wd m0) 3)) (nI c) (nI n) m = some (nI (c + cu (fun n => agB st f (bxr m0 n)) d n), m') ∧ Fr fBx m m'
  | 0, n, c, N, m, hd, hN, hL, hm => by
    obtain ⟨N, rfl⟩ : ∃ k, N = k + 1 := ⟨N - 1, by omega⟩
    have P := Pd_8 (w := wd m0) (fun j hj => ⟨(hB.wx hj).1, (hB.wx hj).2.1⟩)
    refine ⟨m, ?_, Fr.rf⟩
    show lb_Box_manyUnlike_10 F (ll_Box_manyUnlike_10 F N) (nI f) (nI (Pd (wd m0) 3)) (nI c) (nI n) m = _
    unfold lb_Box_manyUnlike_10
    rw [if_pos (nI_le (by omega) (by omega))]
    rfl
  | d + 1, n, c, N, m, hd, hN, hL, hm => by
    obtain ⟨N, rfl⟩ : ∃ k, N = k + 1 := ⟨N - 1, by omega⟩
    have P := Pd_8 (w := wd m0) (fun j hj => ⟨(hB.wx hj).1, (hB.wx hj).2.1⟩)
    obtain ⟨m1, e1, _, f1⟩ := c_comes (F := F) (n := n) hB hL (by omega) hf hm hF
    have hL1 : LC m1 st := hL.fr (fun b j hb => f1 b j (by unfold fL at hb; unfold fBx; omega))
    have hm1 : ∀ i, i < 4 → m1 22 i = m0 22 i ∧ m1 23 i = m0 23 i := fun i hi => by rw [f1 _ _ (by unfold fBx; omega), f1 _ _ (by unfold fBx; omega)]; exact hm i hi
    rw [show ll_Box_manyUnlike_10 F (N + 1) (nI f) (nI (Pd (wd m0) 3)) (nI c) (nI n) m = lb_Box_manyUnlike_10 F (ll_Box_manyUnlike_10 F N) (nI f) (nI (Pd (wd m0) 3)) (nI c) (nI n) m from rfl]
    unfold lb_Box_manyUnlike_10 b_Box_manyUnlike_32 cu
    simp only [if_neg (show ¬ nI (Pd (wd m0) 3) ≤ nI n from nI_ge (by omega) (by omega)), e1, o_b2_some, nI_1]
    by_cases z : agB st f (bxr m0 n) = true
    · simp only [if_pos z, show ¬ (1 : Int32) = 0 by decide, if_false, Int32.add_zero, Nat.zero_add]
      obtain ⟨m', e2, f2⟩ := c_unlike_l (st := st) hB hf hF d (n + 1) c N m1 (by omega) (by omega) hL1 hm1
      exact ⟨m', e2, f1.tr f2⟩
    · simp only [if_neg z, if_true, nI_1, ← Nat.add_assoc]
      obtain ⟨m', e2, f2⟩ := c_unlike_l (st := st) hB hf hF d (n + 1) (c + 1) N m1 (by omega) (by omega) hL1 hm1
      exact ⟨m', e2, f1.tr f2⟩
theorem c_first_l {F f l : Nat} {st : lS} {m0 : aM} (hB : iB m0) (hf : f < 2) (hl : l < 4) (hF : 5000 ≤ F) : ∀ (d n N : Nat) (m : aM), n + d = Pd (wd m0) 3 → d < N → LC m st → (∀ i, i < 4 → m 22 i = m0 22 i ∧ m 23 i = m0 23 i) → ∃ m', ll_Box_firstUnlike_8 F N (nI f) (nI l) (nI (Pd (wd m0) 3)) (nI n) m = some (match fu (fun n => agB st f (bxr m0 n)) d n with | none => -2147483648 | some q => bxr m0 q l, m') ∧ Fr fBx m m'
  | 0, n, N, m, hd, hN, hL, hm => by
    obtain ⟨N, rfl⟩ : ∃ k, N = k + 1 := ⟨N - 1, by omega⟩
    have P := Pd_8 (w := wd m0) (fun j hj => ⟨(hB.wx hj).1, (hB.wx hj).2.1⟩)
    refine ⟨m, ?_, Fr.rf⟩
    show lb_Box_firstUnlike_8 F (ll_Box_firstUnlike_8 F N) (nI f) (nI l) (nI (Pd (wd m0) 3)) (nI n) m = _
    unfold lb_Box_firstUnlike_8
    rw [if_pos (nI_le (by omega) (by omega))]
    rfl
  | d + 1, n, N, m, hd, hN, hL, hm => by
    obtain ⟨N, rfl⟩ : ∃ k, N = k + 1 := ⟨N - 1, by omega⟩
    have P := Pd_8 (w := wd m0) (fun j hj => ⟨(hB.wx hj).1, (hB.wx hj).2.1⟩)
    obtain ⟨m1, e1, v1, f1⟩ := c_comes (F := F) (n := n) hB hL (by omega) hf hm hF
    have hL1 : LC m1 st := hL.fr (fun b j hb => f1 b j (by unfold fL at hb; unfold fBx; omega))
    have hm1 : ∀ i, i < 4 → m1 22 i = m0 22 i ∧ m1 23 i = m0 23 i := fun i hi => by rw [f1 _ _ (by unfold fBx; omega), f1 _ _ (by unfold fBx; omega)]; exact hm i hi
    rw [show ll_Box_firstUnlike_8 F (N + 1) (nI f) (nI l) (nI (Pd (wd m0) 3)) (nI n) m = lb_Box_firstUnlike_8 F (ll_Box_firstUnlike_8 F N) (nI f) (nI l) (nI (Pd (wd m0) 3)) (nI n) m from rfl]
    unfold lb_Box_firstUnlike_8 fu
    simp only [if_neg (show ¬ nI (Pd (wd m0) 3) ≤ nI n from nI_ge (by omega) (by omega)), e1, o_b2_some, nI_1]
    by_cases z : agB st f (bxr m0 n) = true
    · simp only [if_pos z, show ¬ (1 : Int32) = 0 by decide, if_false]
      obtain ⟨m', e2, f2⟩ := c_first_l (st := st) hB hf hl hF d (n + 1) N m1 (by omega) (by omega) hL1 hm1
      exact ⟨m', e2, f1.tr f2⟩
    · simp only [if_neg z, if_true, if_neg (nI_pos (n := l) (by omega)), if_neg (show ¬ (4 : Int32) ≤ nI l from nI_ge (b := 4) hl (by decide)), inb_nI hl (by decide), o_gd_t, nI_clamp (show l < 2 ^ 31 by omega), v1 l hl]
      exact ⟨m1, rfl, f1⟩
def fUn : Nat → Nat → Prop := fun b j => fMx b j ∨ ((b = 255 ∨ b = 257) ∧ j < 4)
theorem m_un23_l {F f : Nat} {R : Int32 → Int32 → Int32 → aM → Option (Int32 × aM)} : ∀ (d i N : Nat) (m : aM), i + d = 4 → d < N → (∀ j, j < i → m 257 j = m 255 j) → ∃ m', ll_Mod_unlikeRows_23 F R N (nI f) 0 (nI i) m = b_Mod_unlikeRows_53 F R (nI f) 0 m' ∧ (∀ j, j < 4 → m' 257 j = m 255 j) ∧ Fr (fun b j => b = 257 ∧ j < 4) m m'
  | 0, i, N, m, hd, hN, h => by
    obtain ⟨N, rfl⟩ : ∃ k, N = k + 1 := ⟨N - 1, by omega⟩
    obtain rfl : i = 4 := by omega
    exact ⟨m, rfl, h, Fr.rf⟩
  | d + 1, i, N, m, hd, hN, h => by
    obtain ⟨N, rfl⟩ : ∃ k, N = k + 1 := ⟨N - 1, by omega⟩
    obtain ⟨m', e, h1, f1⟩ := m_un23_l (F := F) (f := f) (R := R) d (i + 1) N (a_st m 257 i (m 255 i)) (by omega) (by omega) (fun j hj => by
      rw [a_st_ne (b := 255) (by decide)]
      by_cases c : j = i
      · rw [c, a_st_self]
      · rw [a_st_no (by omega)]; exact h j (by omega))
    refine ⟨m', ?_, fun j hj => (h1 j hj).trans (by rw [a_st_ne (by decide)]), Fr.sto f1 ⟨rfl, by omega⟩⟩
    rw [← e, show ll_Mod_unlikeRows_23 F R (N + 1) (nI f) 0 (nI i) m = lb_Mod_unlikeRows_23 F R (ll_Mod_unlikeRows_23 F R N) (nI f) 0 (nI i) m from rfl]
    unfold lb_Mod_unlikeRows_23
    simp only [if_neg (show ¬ (4 : Int32) ≤ nI i from nI_ge (b := 4) (by omega) (by decide)), if_true, inb_nI (show i < 4 by omega) (by decide), o_gd_t, o_let_eq, nI_clamp (show i < 2 ^ 31 by omega), nI_1]
theorem m_unl_l {F f : Nat} {st : lS} {m0 : aM} (hB : iB m0) (hf : f < 2) (hF : 5000 ≤ F) : ∀ (d n c N : Nat) (m : aM), n + d = Pd (wd m0) 3 → d < N → c + d ≤ 4096 → ML m st → (∀ i, i < 4 → m 253 i = m0 22 i ∧ m 254 i = m0 23 i) → (0 < d → ∀ i, i < 4 → m 255 i = bxr m0 n i) → ∃ m', ll_Mod_unlikeRows_8 F N (nI f) (nI c) (if 0 < d then 1 else 0) m = some (nI (c + cu (fun n => agB st f (bxr m0 n)) d n), m') ∧ (∀ j, j < 4 → m' 257 j = if c = 0 then (match fu (fun n => agB st f (bxr m0 n)) d n with | none => m 257 j | some q => bxr m0 q j) else m 257 j) ∧ Fr fUn m m'
  | 0, n, c, N, m, hd, hN, hc, hL, hm, h => by
    obtain ⟨N, rfl⟩ : ∃ k, N = k + 1 := ⟨N - 1, by omega⟩
    refine ⟨m, rfl, fun j hj => ?_, Fr.rf⟩
    split <;> rfl
  | d + 1, n, c, N, m, hd, hN, hc, hL, hm, h => by
    obtain ⟨N, rfl⟩ : ∃ k, N = k + 1 := ⟨N - 1, by omega⟩
    have h := h (by omega)
    obtain ⟨m1, e1, f1⟩ := m_agrees (F := F) (f := f) hL hf h hF
    have hL1 : ML m1 st := hL.fr (fun b j hb => f1 b j (by unfold fL at hb; unfold fMx fV; omega))
    rw [if_pos (show 0 < d + 1 by omega), show ll_Mod_unlikeRows_8 F (N + 1) (nI f) (nI c) 1 m = lb_Mod_unlikeRows_8 F (ll_Mod_unlikeRows_8 F N) (nI f) (nI c) 1 m from rfl]
    unfold lb_Mod_unlikeRows_8 cu fu
    simp only [show ¬ (1 : Int32) = 0 by decide, if_false, e1, o_b2_some]
    have lt : (n + 1 < Pd (wd m0) 3) = (0 < d) := propext (by omega)
    by_cases z : agB st f (bxr m0 n) = true
    · simp only [if_pos z, show ¬ (1 : Int32) = 0 by decide, if_false, Nat.zero_add]
      obtain ⟨m2, e2, v2, f2⟩ := m_go (F := F) (n := n) (m := m1) hB (by omega) (fun i hi => by rw [f1 _ _ (by unfold fMx fV; omega), f1 _ _ (by unfold fMx fV; omega)]; exact hm i hi) (fun i hi => by rw [f1 _ _ (by unfold fMx fV; omega)]; exact h i hi) hF
      simp only [lt] at e2 v2
      obtain ⟨m', e3, v3, f3⟩ := m_unl_l (st := st) hB hf hF d (n + 1) c N m2 (by omega) (by omega) (by omega) (hL1.fr (fun b j hb => f2 b j (by unfold fL at hb; omega))) (fun i hi => by rw [f2 _ _ (by omega), f2 _ _ (by omega), f1 _ _ (by unfold fMx fV; omega), f1 _ _ (by unfold fMx fV; omega)]; exact hm i hi) v2
      unfold b_Mod_unlikeRows_56
      rw [e2, o_b2_some, e3]
      refine ⟨m', rfl, fun j hj => ?_, ((f1.mono (fun b j hb => Or.inl hb)).tr (f2.mono (fun b j hb => Or.inr (by omega)))).tr f3⟩
      rw [v3 j hj, f2 257 j (by omega), f1 257 j (by unfold fMx fV; omega)]
    · simp only [if_neg z, if_true, ← Nat.add_assoc]
      -- the row is kept, if it is the first
      have kp : ∃ m1', ll_Mod_unlikeRows_23 F (ll_Mod_unlikeRows_8 F N) F (nI f) (nI c) 0 m1 = b_Mod_unlikeRows_53 F (ll_Mod_unlikeRows_8 F N) (nI f) (nI c) m1' ∧ (∀ j, j < 4 → m1' 257 j = if c = 0 then bxr m0 n j else m 257 j) ∧ Fr (fun b j => b = 257 ∧ j < 4) m1 m1' := by
        by_cases q : c = 0
        · subst q
          obtain ⟨m1', e, v, f'⟩ := m_un23_l (F := F) (f := f) (R := ll_Mod_unlikeRows_8 F N) 4 0 F m1 (by omega) (by omega) (fun j hj => by omega)
          refine ⟨m1', e, fun j hj => ?_, f'⟩
          rw [if_pos rfl, v j hj, f1 _ _ (by unfold fMx fV; omega)]
          exact h j hj
        · refine ⟨m1, ?_, fun j hj => by rw [if_neg q, f1 _ _ (by unfold fMx fV; omega)], Fr.rf⟩
          obtain ⟨G, hG⟩ : ∃ k, F = k + 1 := ⟨F - 1, by omega⟩
          have : ∀ H, ll_Mod_unlikeRows_23 H (ll_Mod_unlikeRows_8 F N) F (nI f) (nI c) 0 m1 = b_Mod_unlikeRows_53 H (ll_Mod_unlikeRows_8 F N) (nI f) (nI c) m1 := fun H => by
            rw [show ∀ R, ll_Mod_unlikeRows_23 H R F (nI f) (nI c) 0 m1 = lb_Mod_unlikeRows_23 H R (ll_Mod_unlikeRows_23 H R G) (nI f) (nI c) 0 m1 from fun R => by rw [hG]; rfl]
            unfold lb_Mod_unlikeRows_23
            rw [if_neg (by decide), if_neg (nI_ne0 (by omega) (by omega))]
          exact this F
      obtain ⟨m1', ek, vk, fk⟩ := kp
      obtain ⟨m2, e2, v2, f2⟩ := m_go (F := F) (n := n) (m := m1') hB (by omega) (fun i hi => by rw [fk _ _ (by omega), fk _ _ (by omega), f1 _ _ (by unfold fMx fV; omega), f1 _ _ (by unfold fMx fV; omega)]; exact hm i hi) (fun i hi => by rw [fk _ _ (by omega), f1 _ _ (by unfold fMx fV; omega)]; exact h i hi) hF
      simp only [lt] at e2 v2
      obtain ⟨m', e3, v3, f3⟩ := m_unl_l (st := st) hB hf hF d (n + 1) (c + 1) N m2 (by omega) (by omega) (by omega) (hL1.fr (fun b j hb => by unfold fL at hb; rw [f2 b j (by omega), fk b j (by omega)])) (fun i hi => by rw [f2 _ _ (by omega), f2 _ _ (by omega), fk _ _ (by omega), fk _ _ (by omega), f1 _ _ (by unfold fMx fV; omega), f1 _ _ (by unfold fMx fV; omega)]; exact hm i hi) v2
      rw [ek]
      unfold b_Mod_unlikeRows_53 b_Mod_unlikeRows_56
      rw [e2, o_b2_some, nI_1, e3]
      refine ⟨m', rfl, fun j hj => ?_, (((f1.mono (fun b j hb => Or.inl hb)).tr (fk.mono (fun b j hb => Or.inr (by omega)))).tr (f2.mono (fun b j hb => Or.inr (by omega)))).tr f3⟩
      rw [v3 j hj, if_neg (by omega), f2 257 j (by omega), vk j hj]
theorem m_unl {F f : Nat} {st : lS} {m m0 : aM} (hB : iB m0) (hf : f < 2) (hL : ML m st) (hm : ∀ i, i < 4 → m 253 i = m0 22 i ∧ m 254 i = m0 23 i) (hF : 5000 ≤ F) : ∃ m', f_Mod_unlikeRows F (nI f) m = some (nI (cu (fun n => agB st f (bxr m0 n)) (Pd (wd m0) 3) 0), m') ∧ (∀ q, fu (fun n => agB st f (bxr m0 n)) (Pd (wd m0) 3) 0 = some q → ∀ j, j < 4 → m' 257 j = bxr m0 q j) ∧ Fr fUn m m' := by
  have P := Pd_8 (w := wd m0) (fun j hj => ⟨(hB.wx hj).1, (hB.wx hj).2.1⟩)
  obtain ⟨m1, e1, v1, f1⟩ := m_begin (F := F) (m := m) (m0 := m0) (fun i hi => (hm i hi).1) hF
  obtain ⟨m', e2, v2, f2⟩ := m_unl_l (F := F) (st := st) hB hf hF (Pd (wd m0) 3) 0 0 F m1 (by omega) (by omega) (by omega) (hL.fr (fun b j hb => f1 b j (by unfold fL at hb; omega))) (fun i hi => by rw [f1 _ _ (by omega), f1 _ _ (by omega)]; exact hm i hi) (fun _ => v1)
  unfold f_Mod_unlikeRows
  rw [e1, o_b2_some]
  rw [if_pos (show 0 < Pd (wd m0) 3 by omega), Nat.zero_add] at e2
  refine ⟨m', e2, fun q z j hj => ?_, (f1.mono (fun b j hb => Or.inr (by omega))).tr f2⟩
  rw [v2 j hj, if_pos rfl, z]
theorem fUn_sc {b j : Nat} (h : fUn b j) : sc0 b j := by
  unfold fUn fMx fV at h
  unfold sc0
  omega
theorem fBx_sc {b j : Nat} (h : fBx b j) : sc0 b j := by
  unfold fBx at h
  unfold sc0
  omega
theorem z_unlikeI (x : Int32) (F : Nat) (m : aM) (hF : 5000 ≤ F) (h : Iv m) : ZX [IAE] (f_Led_unlike F x) (f_Mod_unlike F x) m := by
  have hB := h.2.2.2.1
  obtain ⟨st, hL⟩ := h.2.2.1
  have P := Pd_8 (w := wd m) (fun j hj => ⟨(hB.wx hj).1, (hB.wx hj).2.1⟩)
  unfold ZX f_Led_unlike f_Mod_unlike b_Mod_unlike_20 f_Box_manyUnlike
  simp only [z_range, z_in, o_let_eq, o_b_some]
  by_cases c : (0 : Int32) ≤ x ∧ x ≤ 1
  case neg =>
    simp only [if_neg c, o_t_inr]
    refine ⟨_, _, rfl, ?_⟩
    simp only [if_true, z_bad1 (show (1 : Int32) ≠ 0 by decide), o_b2_some, show ¬ (1 : Int32) = 0 by decide, if_false]
    exact ⟨_, _, rfl, ⟨0, rfl, a_st_self⟩, (h.f0 th_fr).1, (h.f0 th_fr).2⟩
  obtain ⟨f, f1, rfl⟩ := rng_nat (n := 1) rfl (by decide) c
  obtain ⟨m1, e1, q1⟩ := c_unlike_l (F := F) (f := f) (st := st) hB (by omega) hF (Pd (wd m) 3) 0 0 F m (by omega) (by omega) hL (fun i hi => ⟨rfl, rfl⟩)
  have fc : Fr sc0 m (a_st m1 242 0 0) := (q1.mono (fun b j hb => fBx_sc hb)).tr th_fr
  obtain ⟨m2, e2, _, q2⟩ := m_unl (F := F) (f := f) (st := st) (m := a_st m1 242 0 0) (m0 := m) hB (by omega) (hL.2.fr (fun b j hb => fc b j (by unfold fL at hb; unfold sc0; omega))) (fun i hi => by rw [fc _ _ (by unfold sc0; omega), fc _ _ (by unfold sc0; omega)]; exact ⟨(hB i hi).1.symm, (hB i hi).2.1.symm⟩) hF
  simp only [if_pos c, o_t_inl, c_boxed hB hF, o_b_some, show ll_Box_manyUnlike_10 F F (nI f) (nI (Pd (wd m) 3)) 0 0 m = _ from e1, o_b2_some, Nat.zero_add]
  refine ⟨_, _, rfl, ?_⟩
  simp only [show ¬ (1 : Int32) = 0 by decide, if_false, z_bad0, o_b2_some, if_true, e2]
  have fr : Fr sc0 m m2 := fc.tr (q2.mono (fun b j hb => fUn_sc hb))
  exact ⟨_, _, rfl, ⟨by rw [q2 _ _ (by unfold fUn fMx fV; omega), a_st_self], rfl⟩, (h.f0 fr).1, (h.f0 fr).2⟩
theorem z_agreeI (x1 x2 : Int32) (F : Nat) (m : aM) (hF : 5000 ≤ F) (h : Iv m) : ZX [IAE] (f_Led_agree F x1 x2) (f_Mod_agree F x1 x2) m := by
  have hB := h.2.2.2.1
  obtain ⟨st, hL⟩ := h.2.2.1
  have P := Pd_8 (w := wd m) (fun j hj => ⟨(hB.wx hj).1, (hB.wx hj).2.1⟩)
  unfold ZX f_Led_agree f_Mod_agree b_Mod_agree_24 b_Mod_agree_29 f_Box_firstUnlike
  simp only [z_range, z_letter, z_in, o_let_eq, o_b_some]
  have e0 : Iv (a_st m 242 0 1) ∧ AgP m (a_st m 242 0 1) := h.f0 th_fr
  by_cases c : (0 : Int32) ≤ x1 ∧ x1 ≤ 1
  case neg =>
    simp only [if_neg c, o_t_inr]
    refine ⟨_, _, rfl, ?_⟩
    simp only [if_true, z_bad1 (show (1 : Int32) ≠ 0 by decide), o_b2_some, show ¬ (1 : Int32) = 0 by decide, if_false]
    exact ⟨_, _, rfl, ⟨0, rfl, a_st_self⟩, e0.1, e0.2⟩
  by_cases c2 : (0 : Int32) ≤ x2 ∧ x2 ≤ 3
  case neg =>
    simp only [if_pos c, if_neg c2, o_t_inl, o_t_inr]
    refine ⟨_, _, rfl, ?_⟩
    simp only [if_true, z_bad1 (show (1 : Int32) ≠ 0 by decide), o_b2_some, show ¬ (1 : Int32) = 0 by decide, if_false]
    exact ⟨_, _, rfl, ⟨0, rfl, a_st_self⟩, e0.1, e0.2⟩
  obtain ⟨f, f1, rfl⟩ := rng_nat (n := 1) rfl (by decide) c
  obtain ⟨l, l3, rfl⟩ := rng_nat (n := 3) rfl (by decide) c2
  have hl : l < 4 := by omega
  obtain ⟨m1, e1, q1⟩ := c_first_l (F := F) (f := f) (l := l) (st := st) hB (by omega) hl hF (Pd (wd m) 3) 0 F m (by omega) (by omega) hL (fun i hi => ⟨rfl, rfl⟩)
  have fc : Fr sc0 m (a_st m1 242 0 0) := (q1.mono (fun b j hb => fBx_sc hb)).tr th_fr
  obtain ⟨m2, e2, v2, q2⟩ := m_unl (F := F) (f := f) (st := st) (m := a_st m1 242 0 0) (m0 := m) hB (by omega) (hL.2.fr (fun b j hb => fc b j (by unfold fL at hb; unfold sc0; omega))) (fun i hi => by rw [fc _ _ (by unfold sc0; omega), fc _ _ (by unfold sc0; omega)]; exact ⟨(hB i hi).1.symm, (hB i hi).2.1.symm⟩) hF
  have fr : Fr sc0 m m2 := fc.tr (q2.mono (fun b j hb => fUn_sc hb))
  have t0 : m2 242 0 = 0 := by rw [q2 _ _ (by unfold fUn fMx fV; omega), a_st_self]
  simp only [if_pos c, if_pos c2, o_t_inl, c_boxed hB hF, o_b_some, show ll_Box_firstUnlike_8 F F (nI f) (nI l) (nI (Pd (wd m) 3)) 0 m = _ from e1, o_b2_some]
  refine ⟨_, _, rfl, ?_⟩
  simp only [show ¬ (1 : Int32) = 0 by decide, if_false, z_bad0, o_b2_some, if_true, e2, inb_nI hl (by decide), o_gd_t, nI_clamp (show l < 2 ^ 31 by omega)]
  have cl := cu_le (P := fun n => agB st f (bxr m n)) (Pd (wd m) 3) 0
  have cf := cu_fu (P := fun n => agB st f (bxr m n)) (Pd (wd m) 3) 0
  generalize hq : fu (fun n => agB st f (bxr m n)) (Pd (wd m) 3) 0 = o at *
  cases o with
  | none =>
    have z : nI (cu (fun n => agB st f (bxr m n)) (Pd (wd m) 3) 0) = 0 := by rw [cf.mpr rfl]; rfl
    simp only [if_pos z]
    exact ⟨_, _, rfl, ⟨t0, rfl⟩, (h.f0 fr).1, (h.f0 fr).2⟩
  | some q =>
    have z : ¬ nI (cu (fun n => agB st f (bxr m n)) (Pd (wd m) 3) 0) = 0 := nI_ne0 (Nat.pos_of_ne_zero (fun y => by have := cf.mp y; simp at this)) (by omega)
    simp only [if_neg z]
    exact ⟨_, _, rfl, ⟨t0, (v2 q rfl l hl).symm⟩, (h.f0 fr).1, (h.f0 fr).2⟩
