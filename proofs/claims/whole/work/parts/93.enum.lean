/-! THE BOX: its rows by number, and one after another -/
def dgt (w : Nat → Nat) : Nat → Nat → Nat → Nat
  | 0, Q, _ => Q % w 0
  | j + 1, Q, i => if i = j + 1 then Q % w (j + 1) else dgt w j (Q / w (j + 1)) i
def Pd (w : Nat → Nat) : Nat → Nat
  | 0 => w 0
  | j + 1 => Pd w j * w (j + 1)
theorem dgt_lt {w : Nat → Nat} : ∀ (j Q i : Nat), (∀ q, q ≤ j → 0 < w q) → i ≤ j → dgt w j Q i < w i
  | 0, Q, i, hw, hi => by
    obtain rfl : i = 0 := by omega
    exact Nat.mod_lt _ (hw 0 (by omega))
  | j + 1, Q, i, hw, hi => by
    unfold dgt
    by_cases c : i = j + 1
    · rw [if_pos c, c]
      exact Nat.mod_lt _ (hw _ (by omega))
    · rw [if_neg c]
      exact dgt_lt j _ i (fun q hq => hw q (by omega)) (by omega)
theorem dgt_0 {w : Nat → Nat} : ∀ (j i : Nat), dgt w j 0 i = 0
  | 0, i => by simp [dgt]
  | j + 1, i => by
    unfold dgt
    rw [Nat.zero_mod, Nat.zero_div, dgt_0 j i]
    split <;> rfl
def wd (m : aM) (j : Nat) : Nat := ((m 23 j).toInt - (m 22 j).toInt + 1).toNat
theorem iB.wx {m : aM} (h : iB m) {j : Nat} (hj : j < 4) : 1 ≤ wd m j ∧ wd m j ≤ 8 ∧ (m 23 j).toInt = (m 22 j).toInt + (wd m j : Int) - 1 ∧ -999 ≤ (m 22 j).toInt ∧ (m 23 j).toInt ≤ 999 := by
  obtain ⟨_, _, h3, h4, h5, h6⟩ := h j hj
  unfold wd
  omega
theorem iB.sz {m : aM} (h : iB m) {j : Nat} (hj : j < 4) : m 23 j - m 22 j + 1 = nI (wd m j) := by
  obtain ⟨h1, h2, h3, h4, h5⟩ := h.wx hj
  apply Int32.toInt_inj.mp
  have e1 : (1 : Int32).toInt = 1 := rfl
  have e2 : (m 23 j - m 22 j).toInt = (m 23 j).toInt - (m 22 j).toInt := i_sub (by omega) (by omega)
  rw [i_add (by omega) (by omega), e2, nI_toInt (by omega)]
  omega
theorem nI_mul (a b : Nat) : nI a * nI b = nI (a * b) := (Int32.ofNat_mul a b).symm
theorem nI_mod {a b : Nat} (ha : a < 2 ^ 31) (hb : b < 2 ^ 31) : nI a % nI b = nI (a % b) := by
  apply Int32.toInt_inj.mp
  have : a % b ≤ a := Nat.mod_le a b
  rw [Int32.toInt_mod, nI_toInt ha, nI_toInt hb, nI_toInt (by omega), ← Int.ofNat_tmod]
theorem nI_div {a b : Nat} (ha : a < 2 ^ 31) (hb : b < 2 ^ 31) : nI a / nI b = nI (a / b) := by
  apply Int32.toInt_inj.mp
  have : a / b ≤ a := Nat.div_le_self a b
  rw [Int32.toInt_div, nI_toInt ha, nI_toInt hb, nI_toInt (by omega), ← Int.ofNat_tdiv]
  have h0 : (0 : Int) ≤ ((a / b : Nat) : Int) := Int.natCast_nonneg _
  exact bm32 (by omega) (by omega)
/-- row n of the box -/
def bxr (m : aM) (n j : Nat) : Int32 := m 22 j + nI (dgt (wd m) 3 n j)
theorem c_fill_l {F a : Nat} {m0 : aM} (hB : iB m0) (ha : 23 < a) : ∀ (j Q N : Nat) (m : aM), j < 4 → j + 1 < N → Q ≤ 4096 → (∀ i, i < 4 → m 22 i = m0 22 i ∧ m 23 i = m0 23 i) → ∃ m', ll_Box_fillRow_5 F N a (nI Q) (nI j) m = some (0, m') ∧ (∀ i, i ≤ j → m' a i = m0 22 i + nI (dgt (wd m0) j Q i)) ∧ Fr (fun b i => b = a ∧ i ≤ j) m m'
  | j, Q, N, m, hj, hN, hQ, hm => by
    obtain ⟨N, rfl⟩ : ∃ k, N = k + 1 := ⟨N - 1, by omega⟩
    obtain ⟨s1, s2, s3, s4, s5⟩ := hB.wx hj
    have sz := hB.sz hj
    have n1 : ¬ nI (wd m0 j) < 1 := nI_nlt (a := wd m0 j) (b := 1) s1 (by omega)
    have nzz : nz (nI (wd m0 j)) = true := decide_eq_true (nI_ne0 (by omega) (by omega))
    rw [show ll_Box_fillRow_5 F (N + 1) a (nI Q) (nI j) m = lb_Box_fillRow_5 F (ll_Box_fillRow_5 F N) a (nI Q) (nI j) m from rfl]
    unfold lb_Box_fillRow_5
    simp only [if_neg (nI_pos (n := j) (by omega)), if_neg (show ¬ (4 : Int32) ≤ nI j from nI_ge (b := 4) hj (by decide)), inb_nI hj (by decide), o_gd_t, o_let_eq, nI_clamp (show j < 2 ^ 31 by omega), (hm j hj).1, (hm j hj).2, sz, if_neg n1, nzz, nI_mod (show Q < 2 ^ 31 by omega) (show wd m0 j < 2 ^ 31 by omega), nI_div (show Q < 2 ^ 31 by omega) (show wd m0 j < 2 ^ 31 by omega)]
    cases j with
    | zero =>
      obtain ⟨N, rfl⟩ : ∃ k, N = k + 1 := ⟨N - 1, by omega⟩
      refine ⟨_, rfl, fun i hi => ?_, Fr.rf.st ⟨rfl, Nat.le_refl _⟩⟩
      obtain rfl : i = 0 := by omega
      rw [a_st_self]
      rfl
    | succ j =>
      have dv : Q / wd m0 (j + 1) ≤ Q := Nat.div_le_self _ _
      obtain ⟨m', e, v, f⟩ := c_fill_l (F := F) hB ha j (Q / wd m0 (j + 1)) N (a_st m a (j + 1) (m0 22 (j + 1) + nI (Q % wd m0 (j + 1)))) (by omega) (by omega) (by omega) (fun i hi => by rw [a_st_ne (by omega), a_st_ne (by omega)]; exact hm i hi)
      rw [nI_pred]
      refine ⟨m', e, fun i hi => ?_, Fr.sto (f.mono (fun b i hb => by omega)) ⟨rfl, by omega⟩⟩
      unfold dgt
      by_cases c : i = j + 1
      · rw [if_pos c, f _ _ (by omega), c, a_st_self]
      · rw [if_neg c]
        exact v i (by omega)
theorem c_fill {F a n : Nat} {m m0 : aM} (hB : iB m0) (ha : 23 < a) (hn : n ≤ 4096) (hm : ∀ i, i < 4 → m 22 i = m0 22 i ∧ m 23 i = m0 23 i) (hF : 5000 ≤ F) : ∃ m', f_Box_fillRow F (nI n) a m = some (0, m') ∧ (∀ j, j < 4 → m' a j = bxr m0 n j) ∧ Fr (fun b i => b = a ∧ i < 4) m m' := by
  obtain ⟨m', e, v, f⟩ := c_fill_l (F := F) hB ha 3 n F m (by omega) (by omega) hn hm
  exact ⟨m', e, fun j hj => v j (by omega), f.mono (fun b i hb => by omega)⟩
theorem Pd_8 {w : Nat → Nat} (h : ∀ j, j < 4 → 1 ≤ w j ∧ w j ≤ 8) : 1 ≤ Pd w 3 ∧ Pd w 3 ≤ 4096 ∧ ∀ j, j < 4 → 1 ≤ Pd w j := by
  have h0 := h 0 (by omega)
  have h1 := h 1 (by omega)
  have h2 := h 2 (by omega)
  have h3 := h 3 (by omega)
  have p0 : 1 ≤ Pd w 0 ∧ Pd w 0 ≤ 8 := h0
  have p1 : 1 ≤ Pd w 1 ∧ Pd w 1 ≤ 64 := ⟨Nat.mul_le_mul p0.1 h1.1, Nat.mul_le_mul p0.2 h1.2⟩
  have p2 : 1 ≤ Pd w 2 ∧ Pd w 2 ≤ 512 := ⟨Nat.mul_le_mul p1.1 h2.1, Nat.mul_le_mul p1.2 h2.2⟩
  have p3 : 1 ≤ Pd w 3 ∧ Pd w 3 ≤ 4096 := ⟨Nat.mul_le_mul p2.1 h3.1, Nat.mul_le_mul p2.2 h3.2⟩
  refine ⟨p3.1, p3.2, fun j hj => ?_⟩
  match j, hj with
  | 0, _ => exact p0.1
  | 1, _ => exact p1.1
  | 2, _ => exact p2.1
  | 3, _ => exact p3.1
theorem c_boxed {F : Nat} {m : aM} (hB : iB m) (hF : 5000 ≤ F) : f_Box_manyBoxed F m = some (nI (Pd (wd m) 3)) := by
  obtain ⟨G, hG⟩ : ∃ k, F = k + 5 := ⟨F - 5, by omega⟩
  have P := Pd_8 (w := wd m) (fun j hj => ⟨(hB.wx hj).1, (hB.wx hj).2.1⟩)
  unfold f_Box_manyBoxed
  have st : ∀ (H N i p : Nat), i < 4 → ll_Box_manyBoxed_4 H (N + 1) (nI p) (nI i) m = ll_Box_manyBoxed_4 H N (nI (p * wd m i)) (nI (i + 1)) m := fun H N i p hi => by
    rw [show ll_Box_manyBoxed_4 H (N + 1) (nI p) (nI i) m = lb_Box_manyBoxed_4 H (ll_Box_manyBoxed_4 H N) (nI p) (nI i) m from rfl]
    unfold lb_Box_manyBoxed_4
    simp only [if_neg (show ¬ (4 : Int32) ≤ nI i from nI_ge (b := 4) hi (by decide)), inb_nI hi (by decide), o_gd_t, o_let_eq, nI_clamp (show i < 2 ^ 31 by omega), hB.sz hi, nI_mul, nI_1]
  have g : ∀ H, ll_Box_manyBoxed_4 H F 1 0 m = some (nI (Pd (wd m) 3)) := fun H => by
    rw [hG]
    show ll_Box_manyBoxed_4 H (G + 4 + 1) (nI 1) (nI 0) m = _
    rw [st H (G + 4) 0 1 (by omega), show G + 4 = G + 3 + 1 from rfl, st H (G + 3) 1 _ (by omega), show G + 3 = G + 2 + 1 from rfl, st H (G + 2) 2 _ (by omega), show G + 2 = G + 1 + 1 from rfl, st H (G + 1) 3 _ (by omega), Nat.one_mul]
    show lb_Box_manyBoxed_4 H (ll_Box_manyBoxed_4 H G) (nI (Pd (wd m) 3)) (nI 4) m = _
    unfold lb_Box_manyBoxed_4
    rw [if_pos (by decide), o_let_eq, if_neg (show ¬ (4096 : Int32) < nI (Pd (wd m) 3) from nI_nlt (a := 4096) (b := Pd (wd m) 3) P.2.1 (by decide))]
  exact g F
/-- the next row, in the reference -/
theorem m_go_l {F : Nat} {m0 : aM} (hB : iB m0) : ∀ (j Q N : Nat) (m : aM), j < 4 → j + 1 < N → Q < Pd (wd m0) j → (∀ i, i < 4 → m 253 i = m0 22 i ∧ m 254 i = m0 23 i) → (∀ i, i ≤ j → m 255 i = m0 22 i + nI (dgt (wd m0) j Q i)) → ∃ m', ll_Mod_goesOn_2 F N (nI j) m = some (if Q + 1 < Pd (wd m0) j then 1 else 0, m') ∧ (Q + 1 < Pd (wd m0) j → ∀ i, i ≤ j → m' 255 i = m0 22 i + nI (dgt (wd m0) j (Q + 1) i)) ∧ Fr (fun b i => b = 255 ∧ i ≤ j) m m'
  | j, Q, N, m, hj, hN, hQ, hm, h => by
    obtain ⟨N, rfl⟩ : ∃ k, N = k + 1 := ⟨N - 1, by omega⟩
    obtain ⟨s1, s2, s3, s4, s5⟩ := hB.wx hj
    have dl : dgt (wd m0) j Q j = Q % wd m0 j := by
      cases j with
      | zero => rfl
      | succ j => unfold dgt; rw [if_pos rfl]
    have ml : Q % wd m0 j < wd m0 j := Nat.mod_lt _ (by omega)
    have v0 : (m 255 j).toInt = (m0 22 j).toInt + ((Q % wd m0 j : Nat) : Int) := by
      rw [h j (by omega), dl, i_add (by rw [nI_toInt (by omega)]; omega) (by rw [nI_toInt (by omega)]; omega), nI_toInt (by omega)]
    have tst : m 254 j ≤ m 255 j ↔ Q % wd m0 j + 1 = wd m0 j := by
      rw [(hm j hj).2, i_le, v0, s3]
      omega
    rw [show ll_Mod_goesOn_2 F (N + 1) (nI j) m = lb_Mod_goesOn_2 F (ll_Mod_goesOn_2 F N) (nI j) m from rfl]
    unfold lb_Mod_goesOn_2
    simp only [if_neg (nI_pos (n := j) (by omega)), inb_nI hj (by decide), o_gd_t, o_let_eq, nI_clamp (show j < 2 ^ 31 by omega), tst]
    have dm := Nat.div_add_mod Q (wd m0 j)
    by_cases c : Q % wd m0 j + 1 = wd m0 j
    · -- carry
      rw [if_pos c]
      have q1 : (Q + 1) % wd m0 j = 0 := by
        rw [show Q + 1 = wd m0 j * (Q / wd m0 j + 1) by rw [Nat.mul_add, Nat.mul_one]; omega]
        exact Nat.mul_mod_right _ _
      have q2 : (Q + 1) / wd m0 j = Q / wd m0 j + 1 := by
        rw [show Q + 1 = wd m0 j * (Q / wd m0 j + 1) by rw [Nat.mul_add, Nat.mul_one]; omega]
        exact Nat.mul_div_cancel_left _ (by omega)
      cases j with
      | zero =>
        obtain ⟨N, rfl⟩ : ∃ k, N = k + 1 := ⟨N - 1, by omega⟩
        have : ¬ Q + 1 < Pd (wd m0) 0 := by
          have e : Pd (wd m0) 0 = wd m0 0 := rfl
          rw [e] at hQ ⊢
          rw [Nat.mod_eq_of_lt hQ] at c
          omega
        rw [if_neg this]
        exact ⟨_, rfl, fun z => absurd z this, Fr.rf.st ⟨rfl, by omega⟩⟩
      | succ j =>
        have ePd : Pd (wd m0) (j + 1) = Pd (wd m0) j * wd m0 (j + 1) := rfl
        have lt1 : Q / wd m0 (j + 1) < Pd (wd m0) j := by
          rw [ePd] at hQ
          exact (Nat.div_lt_iff_lt_mul (by omega)).mpr hQ
        obtain ⟨m', e, v, f⟩ := m_go_l (F := F) hB j (Q / wd m0 (j + 1)) N (a_st m 255 (j + 1) (m 253 (j + 1))) (by omega) (by omega) lt1 (fun i hi => by rw [a_st_ne (by decide), a_st_ne (by decide)]; exact hm i hi) (fun i hi => by
          rw [a_st_no (by omega), h i (by omega)]
          conv => lhs; unfold dgt
          rw [if_neg (by omega)])
        have iff1 : Q + 1 < Pd (wd m0) (j + 1) ↔ Q / wd m0 (j + 1) + 1 < Pd (wd m0) j := by
          rw [ePd, ← q2]
          exact (Nat.div_lt_iff_lt_mul (by omega)).symm
        rw [nI_pred, e]
        refine ⟨m', by simp only [iff1], fun z i hi => ?_, Fr.sto (f.mono (fun b i hb => by omega)) ⟨rfl, by omega⟩⟩
        unfold dgt
        by_cases ci : i = j + 1
        · rw [if_pos ci, f _ _ (by omega), ci, a_st_self, (hm (j + 1) hj).1, q1]
          exact (Int32.add_zero _).symm
        · rw [if_neg ci, q2]
          exact v (iff1.mp z) i (by omega)
    · rw [if_neg c]
      have q1 : (Q + 1) % wd m0 j = Q % wd m0 j + 1 := by
        rw [show Q + 1 = (Q % wd m0 j + 1) + wd m0 j * (Q / wd m0 j) by omega, Nat.add_mul_mod_self_left]
        exact Nat.mod_eq_of_lt (by omega)
      have q2 : (Q + 1) / wd m0 j = Q / wd m0 j := by
        rw [show Q + 1 = (Q % wd m0 j + 1) + wd m0 j * (Q / wd m0 j) by omega, Nat.add_mul_div_left _ _ (by omega), Nat.div_eq_of_lt (by omega), Nat.zero_add]
      have lt2 : Q + 1 < Pd (wd m0) j := by
        cases j with
        | zero =>
          have e : Pd (wd m0) 0 = wd m0 0 := rfl
          rw [e] at hQ ⊢
          rw [Nat.mod_eq_of_lt hQ] at c
          omega
        | succ j =>
          have ePd : Pd (wd m0) (j + 1) = Pd (wd m0) j * wd m0 (j + 1) := rfl
          rw [ePd] at hQ ⊢
          rw [← Nat.div_lt_iff_lt_mul (by omega), q2]
          exact (Nat.div_lt_iff_lt_mul (by omega)).mpr hQ
      rw [if_pos lt2]
      refine ⟨_, rfl, fun z i hi => ?_, Fr.rf.st ⟨rfl, by omega⟩⟩
      by_cases ci : i = j
      · subst ci
        have dl' : dgt (wd m0) i (Q + 1) i = (Q + 1) % wd m0 i := by
          cases i with
          | zero => rfl
          | succ i => unfold dgt; rw [if_pos rfl]
        rw [a_st_self, dl', q1, h i (by omega), dl, ← nI_1, Int32.add_assoc]
      · rw [a_st_no (by omega), h i hi]
        cases j with
        | zero => omega
        | succ j =>
          unfold dgt
          rw [if_neg ci, if_neg ci, q2]
theorem m_go {F n : Nat} {m m0 : aM} (hB : iB m0) (hn : n < Pd (wd m0) 3) (hm : ∀ i, i < 4 → m 253 i = m0 22 i ∧ m 254 i = m0 23 i) (h : ∀ i, i < 4 → m 255 i = bxr m0 n i) (hF : 5000 ≤ F) : ∃ m', f_Mod_goesOn F m = some (if n + 1 < Pd (wd m0) 3 then 1 else 0, m') ∧ (n + 1 < Pd (wd m0) 3 → ∀ i, i < 4 → m' 255 i = bxr m0 (n + 1) i) ∧ Fr (fun b i => b = 255 ∧ i < 4) m m' := by
  obtain ⟨m', e, v, f⟩ := m_go_l (F := F) hB 3 n F m (by omega) (by omega) hn hm (fun i hi => h i (by omega))
  exact ⟨m', e, fun z i hi => v z i (by omega), f.mono (fun b i hb => by omega)⟩
theorem m_begin_l {F : Nat} : ∀ (d i N : Nat) (m : aM), i + d = 4 → d < N → (∀ j, j < i → m 255 j = m 253 j) → ∃ m', ll_Mod_begin_2 F N (nI i) m = some (0, m') ∧ (∀ j, j < 4 → m' 255 j = m 253 j) ∧ Fr (fun b j => b = 255 ∧ j < 4) m m'
  | 0, i, N, m, hd, hN, h => by
    obtain ⟨N, rfl⟩ : ∃ k, N = k + 1 := ⟨N - 1, by omega⟩
    obtain rfl : i = 4 := by omega
    exact ⟨m, rfl, h, Fr.rf⟩
  | d + 1, i, N, m, hd, hN, h => by
    obtain ⟨N, rfl⟩ : ∃ k, N = k + 1 := ⟨N - 1, by omega⟩
    obtain ⟨m', e, h1, f1⟩ := m_begin_l (F := F) d (i + 1) N (a_st m 255 i (m 253 i)) (by omega) (by omega) (fun j hj => by
      rw [a_st_ne (b := 253) (by decide)]
      by_cases c : j = i
      · rw [c, a_st_self]
      · rw [a_st_no (by omega)]; exact h j (by omega))
    refine ⟨m', ?_, fun j hj => (h1 j hj).trans (by rw [a_st_ne (by decide)]), Fr.sto f1 ⟨rfl, by omega⟩⟩
    show lb_Mod_begin_2 F (ll_Mod_begin_2 F N) (nI i) m = _
    unfold lb_Mod_begin_2
    simp only [if_neg (show ¬ (4 : Int32) ≤ nI i from nI_ge (b := 4) (by omega) (by decide)), inb_nI (show i < 4 by omega) (by decide), o_gd_t, o_let_eq, nI_clamp (show i < 2 ^ 31 by omega), nI_1]
    exact e
theorem m_begin {F : Nat} {m m0 : aM} (hm : ∀ i, i < 4 → m 253 i = m0 22 i) (hF : 5000 ≤ F) : ∃ m', f_Mod_begin F m = some (0, m') ∧ (∀ j, j < 4 → m' 255 j = bxr m0 0 j) ∧ Fr (fun b j => b = 255 ∧ j < 4) m m' := by
  obtain ⟨m', e, v, f⟩ := m_begin_l (F := F) 4 0 F m (by omega) (by omega) (fun j hj => by omega)
  refine ⟨m', e, fun j hj => ?_, f⟩
  unfold bxr
  rw [v j hj, hm j hj, dgt_0]
  exact (Int32.add_zero _).symm
