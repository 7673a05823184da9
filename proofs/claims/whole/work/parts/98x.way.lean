/-! WAYS: the way, step by step -/
/-- the reference after its sweeps -/
def Rr (m0 mr : aM) (c p : Nat) (dM : Nat → Option Nat) : Prop := iPl mr c p ∧ (∀ b j, 30 ≤ b ∧ b ≤ 34 → mr b j = m0 b j) ∧ (∀ j, j < 6912 → mr 8472 j = if stB m0 c p j then 1 else 0) ∧ fE mr dM
/-- the class after its work -/
def Rc (m0 : aM) (a0 c p : Nat) (d : D3) : Prop := iPl m0 c p ∧ m0 a0 7 = nI (p6 c) ∧ eD m0 a0 c p (fun _ => True) d ∧ ∀ i, Tb (stB m0 c p) c p (coC m0 i) (GC m0 c p i) (d i)
theorem hS_fr2 {m0 m : aM} (f : ∀ b j, 30 ≤ b ∧ b ≤ 34 → m b j = m0 b j) (n s : Nat) : hS m n s = hS m0 n s := by
  unfold hS
  rw [f 30 _ (by decide), f 32 _ (by decide)]
section
variable {m0 mr : aM} {a0 c p : Nat} {dM : Nat → Option Nat} {d : D3}
theorem cB_C (h0 : iPl m0 c p) : ∀ n s x, tcG m0 c p n s = some x → cB1 (hG m0) 10000 n s ≤ 990001 := fun n s x e => by
  obtain ⟨_, _, _, _, f5, _, _, f8⟩ := toG_f (stB_ok h0) e
  have := hS_b (n := n / 32) h0 f5 f8
  show 10000 * hS m0 (n / 32) s + 1 ≤ 990001
  omega
theorem gG_st {b : Bool} : ∀ n, gG m0 c p b n → stB m0 c p n = true := fun _ h => h.2
theorem m_fs1 (h0 : iPl m0 c p) (r : Rr m0 mr c p dM) (t : Tb (stB m0 c p) c p (cB1 (hG m0) 10000) (gG m0 c p true) dM) {F : Nat} {rec : Int32 → Int32 → aM → Option Int32} {n s v : Nat} (hn : n < 6912) (e : dM n = some v) (h11 : s < 11) : (sP m0 c p dM 10000 n s → lb_Mod_firstStep_2 F rec (nI n) (nI s) mr = some (nI s)) ∧ (¬ sP m0 c p dM 10000 n s → lb_Mod_firstStep_2 F rec (nI n) (nI s) mr = rec (nI n) (nI (s + 1)) mr) := by
  obtain ⟨hp, fp, hs, he⟩ := r
  have ok := stB_ok h0
  have hst := snd_st ok gG_st t.1.t e
  have eS := m_stepG ok hp hs hn hst h11
  have vb := snd_bd ok (cB_C h0) t.1 hn e
  unfold lb_Mod_firstStep_2 b_Mod_firstStep_84
  rw [eS, o_b_some, o_b_some, o_b_some, show nI s + 1 = nI (s + 1) from nI_add s 1]
  cases eT : toG (stB m0 c p) c p n s with
  | none =>
    rw [show enM none = -1 from rfl, if_pos rfl]
    refine ⟨?_, fun _ => rfl⟩
    rintro ⟨x, u, k1, _⟩
    rw [show tcG m0 c p n s = none from eT] at k1
    exact absurd k1 (by simp)
  | some x =>
    obtain ⟨_, xl, _, _, _, _, _, h5⟩ := toG_f ok eT
    rw [show enM (some x) = nI x from rfl, if_neg (nI_m1 (by omega)), inb_nI xl (by decide), o_gd_t, o_gd_t, nI_clamp (by omega), he x xl]
    cases eD : dM x with
    | none =>
      rw [show enM none = -1 from rfl, if_pos rfl]
      refine ⟨?_, fun _ => rfl⟩
      rintro ⟨x', u, k1, k2, _⟩
      rw [show x' = x from Option.some.inj (k1.symm.trans eT), eD] at k2
      exact absurd k2 (by simp)
    | some u =>
      have ub := snd_bd ok (cB_C h0) t.1 xl eD
      have cb := cB_C h0 n s x eT
      have cb' : 10000 * hS m0 (n / 32) s + 1 ≤ 990001 := cb
      rw [show enM (some u) = nI u from rfl, if_neg (nI_m1 (by omega)), show nI n / 32 = nI (n / 32) from nI_div (b := 32) (by omega) (by decide), m_cost hp (by omega) h11 h5, o_b_some, hS_fr2 fp, o_let_eq, inb_nI hn (by decide), o_gd_t, nI_clamp (by omega), he n hn, e, show enM (some v) = nI v from rfl, show nI u + 10000 * nI (hS m0 (n / 32) s) + 1 = nI (u + (10000 * hS m0 (n / 32) s + 1)) from by rw [show (10000 : Int32) = nI 10000 from rfl, nI_mul, nI_add]; exact nI_add _ 1]
      have iff : sP m0 c p dM 10000 n s ↔ u + (10000 * hS m0 (n / 32) s + 1) = v := by
        constructor
        · rintro ⟨x', u', k1, k2, k3⟩
          rw [show x' = x from Option.some.inj (k1.symm.trans eT), eD] at k2
          rw [e] at k3
          rw [Option.some.inj k2]
          exact (Option.some.inj k3).symm
        · intro z
          exact ⟨x, u, eT, eD, by rw [e, ← z]⟩
      rw [iff]
      refine ⟨fun z => by rw [if_pos (by rw [z])], fun z => by rw [if_neg (fun y => z (nI_inj (by omega) (by omega) y))]⟩
theorem m_first (h0 : iPl m0 c p) (r : Rr m0 mr c p dM) (t : Tb (stB m0 c p) c p (cB1 (hG m0) 10000) (gG m0 c p true) dM) {F n s v : Nat} (hF : 20000 ≤ F) (hn : n < 6912) (e : dM n = some v) (h11 : s < 11) (k : sP m0 c p dM 10000 n s) (kl : ∀ r, r < s → ¬ sP m0 c p dM 10000 n r) : f_Mod_firstStep F (nI n) mr = some (nI s) := by
  have key : ∀ (dd q N : Nat), q + dd = s → dd < N → ll_Mod_firstStep_2 F N (nI n) (nI q) mr = some (nI s) := fun dd => by
    induction dd with
    | zero =>
      intro q N hd hN
      obtain ⟨N, rfl⟩ : ∃ k, N = k + 1 := ⟨N - 1, by omega⟩
      obtain rfl : q = s := by omega
      exact (m_fs1 (F := F) (rec := ll_Mod_firstStep_2 F N) h0 r t hn e h11).1 k
    | succ dd ih =>
      intro q N hd hN
      obtain ⟨N, rfl⟩ : ∃ k, N = k + 1 := ⟨N - 1, by omega⟩
      exact ((m_fs1 (F := F) (rec := ll_Mod_firstStep_2 F N) h0 r t hn e (by omega)).2 (kl q (by omega))).trans (ih (q + 1) N (by omega) (by omega))
  exact key s 0 F (by omega) (by omega)
theorem Rc.tb (h : Rc m0 a0 c p d) : Tb (stB m0 c p) c p (cB1 (hG m0) 2048) (gG m0 c p true) (d 0) := h.2.2.2 0
theorem cB_C2 (h0 : iPl m0 c p) : ∀ n s x, tcG m0 c p n s = some x → cB1 (hG m0) 2048 n s ≤ 202753 := fun n s x e => by
  obtain ⟨_, _, _, _, f5, _, _, f8⟩ := toG_f (stB_ok h0) e
  have := hS_b (n := n / 32) h0 f5 f8
  show 2048 * hS m0 (n / 32) s + 1 ≤ 202753
  omega
theorem c_isPl {i : Nat} {m : aM} (hi : i < 6912) : f_Way_isPlace (nI i) m = some 1 := by
  unfold f_Way_isPlace
  rw [if_neg (nI_pos (by omega)), if_neg (show ¬ (6912 : Int32) ≤ nI i from nI_ge (b := 6912) hi (by decide))]
theorem c_bs1 (h : Rc m0 a0 c p d) {F : Nat} {rec : Nat → Int32 → Int32 → Int32 → Int32 → aM → Option Int32} {n s v : Nat} (hn : n / 32 < p6 c) (hw : n % 32 < 2 ^ p) (e : d 0 n = some v) (h11 : s < 11) : (sP m0 c p (d 0) 2048 n s → lb_Way_bestStep_25 F rec a0 (nI (ix c n)) (nI (n / 32)) (nI (n % 32)) (nI s) m0 = some (nI s)) ∧ (¬ sP m0 c p (d 0) 2048 n s → lb_Way_bestStep_25 F rec a0 (nI (ix c n)) (nI (n / 32)) (nI (n % 32)) (nI s) m0 = rec a0 (nI (ix c n)) (nI (n / 32)) (nI (n % 32)) (nI (s + 1)) m0) := by
  have t := h.tb
  obtain ⟨h0, h7, he, _⟩ := h
  have ok := stB_ok h0
  have pb := (p6_b (a := c)).2
  have hst := snd_st ok gG_st t.1.t e
  have il := ix_lt hn
  have vb := snd_bd ok (cB_C2 h0) t.1 (show n < 6912 by omega) e
  have rd : ∀ k, k / 32 < p6 c → k % 32 < 2 ^ p → m0 (a0 + 2) (ix c k) = enW (d 0 k) := fun k k1 k2 => he k k1 k2 trivial 0
  unfold lb_Way_bestStep_25 b_Way_bestStep_102
  rw [c_isPl il, o_b_some, if_neg (by decide), if_neg (show ¬ (11 : Int32) ≤ nI s from nI_ge (b := 11) h11 (by decide)), c_next h0 h7 (show n / 32 < 216 by omega) (by omega) h11, o_b_some, show nI s + 1 = nI (s + 1) from nI_add s 1]
  cases eT : stT c p (n / 32) (n % 32) s with
  | none =>
    show _ ∧ (_ → o_b (f_Way_isPlace (-1) m0) _ = _)
    rw [show f_Way_isPlace (-1) m0 = some 0 from rfl, o_b_some, if_pos rfl]
    refine ⟨?_, fun _ => rfl⟩
    rintro ⟨x, u, k1, _⟩
    obtain ⟨_, _, q, g1, _⟩ := toG_iff.mp k1
    rw [eT] at g1
    exact absurd g1 (by simp)
  | some q =>
    obtain ⟨i1, i2⟩ := stT_in h0.1 h0.2.1 hn hw eT
    obtain ⟨j1, j2, _, _, j5⟩ := stT_some (show n / 32 < 216 by omega) (show n % 32 < 32 by omega) h0.2.1 eT
    have x1 : (32 * q.1 + q.2) / 32 = q.1 := by omega
    have x2 : (32 * q.1 + q.2) % 32 = q.2 := by omega
    have xl : q.2 * p6 c + q.1 < 6912 := by rw [← ix_p j2]; exact ix_lt (by rw [x1]; exact i1)
    have hb := hS_b (n := n / 32) h0 h11 j5
    have rx := rd (32 * q.1 + q.2) (by rw [x1]; exact i1) (by rw [x2]; exact i2)
    rw [ix_p j2] at rx
    show (_ → o_b (f_Way_isPlace (nI (q.2 * p6 c + q.1)) m0) _ = _) ∧ (_ → o_b (f_Way_isPlace (nI (q.2 * p6 c + q.1)) m0) _ = _)
    rw [c_isPl xl, o_b_some, if_neg (by decide), inb_nI xl (by decide), o_gd_t, o_let_eq, nI_clamp (by omega), rx, o_gd_t, o_let_eq, c_hold h0 (by omega) h11 j5, o_b_some, inb_nI il (by decide), o_gd_t, o_let_eq, nI_clamp (by omega), rd n hn hw, e]
    cases eX : d 0 (32 * q.1 + q.2) with
    | none =>
      rw [show enW none = 2147483647 from rfl, if_pos rfl]
      refine ⟨?_, fun _ => rfl⟩
      rintro ⟨x, u, k1, k2, _⟩
      obtain ⟨_, _, q', g1, _, g3⟩ := toG_iff.mp k1
      rw [← Option.some.inj (eT.symm.trans g1)] at g3
      rw [g3, eX] at k2
      exact absurd k2 (by simp)
    | some u =>
      have ub := snd_bd ok (cB_C2 h0) t.1 (show 32 * q.1 + q.2 < 6912 by omega) eX
      have sx := snd_st ok gG_st t.1.t eX
      rw [show enW (some u) = nI u from rfl, show enW (some v) = nI v from rfl, if_neg (enW_max (by omega)), show nI u + nI (hS m0 (n / 32) s) * 2048 + 1 = nI (u + (2048 * hS m0 (n / 32) s + 1)) from by rw [show (2048 : Int32) = nI 2048 from rfl, nI_mul, nI_add, Nat.mul_comm]; exact nI_add _ 1]
      have iff : sP m0 c p (d 0) 2048 n s ↔ u + (2048 * hS m0 (n / 32) s + 1) = v := by
        constructor
        · rintro ⟨x, u', k1, k2, k3⟩
          obtain ⟨_, _, q', g1, _, g3⟩ := toG_iff.mp k1
          rw [← Option.some.inj (eT.symm.trans g1)] at g3
          rw [g3, eX] at k2
          rw [e] at k3
          rw [Option.some.inj k2]
          exact (Option.some.inj k3).symm
        · intro z
          exact ⟨32 * q.1 + q.2, u, toG_iff.mpr ⟨hst, h11, q, eT, sx, rfl⟩, eX, by rw [e, ← z]⟩
      rw [iff]
      refine ⟨fun z => by rw [if_pos (by rw [z])], fun z => by rw [if_neg (fun y => z (nI_inj (by omega) (by omega) y))]⟩
theorem ix_mod {n : Nat} (h : n / 32 < p6 c) : nI (ix c n) % nI (p6 c) = nI (n / 32) ∧ nI (ix c n) / nI (p6 c) = nI (n % 32) := by
  have pb := (p6_b (a := c)).2
  have il := ix_lt h
  rw [nI_mod (by omega) (by omega), nI_div (by omega) (by omega)]
  unfold ix
  rw [Nat.mul_comm, Nat.mul_add_mod, Nat.mod_eq_of_lt h, Nat.mul_add_div (by omega), Nat.div_eq_of_lt h, Nat.add_zero]
  exact ⟨rfl, rfl⟩
theorem nI_p6 : (if nI (p6 c) < 1 then (1 : Int32) else nI (p6 c)) = nI (p6 c) ∧ nz (nI (p6 c)) = true := by
  have pb := p6_b (a := c)
  refine ⟨if_neg (nI_nlt (b := 1) (by omega) (by omega)), decide_eq_true (fun z => ?_)⟩
  have := nI_inj (by omega) (by decide) (show nI (p6 c) = nI 0 from z)
  omega
theorem c_best (h : Rc m0 a0 c p d) {F n s v : Nat} (hF : 20000 ≤ F) (hn : n / 32 < p6 c) (hw : n % 32 < 2 ^ p) (e : d 0 n = some v) (h11 : s < 11) (k : sP m0 c p (d 0) 2048 n s) (kl : ∀ r, r < s → ¬ sP m0 c p (d 0) 2048 n r) : f_Way_bestStep F a0 (nI (ix c n)) m0 = some (nI s) := by
  have key : ∀ (dd q N : Nat), q + dd = s → dd < N → ll_Way_bestStep_25 F N a0 (nI (ix c n)) (nI (n / 32)) (nI (n % 32)) (nI q) m0 = some (nI s) := fun dd => by
    induction dd with
    | zero =>
      intro q N hd hN
      obtain ⟨N, rfl⟩ : ∃ k, N = k + 1 := ⟨N - 1, by omega⟩
      obtain rfl : q = s := by omega
      exact (c_bs1 (F := F) (rec := ll_Way_bestStep_25 F N) h hn hw e h11).1 k
    | succ dd ih =>
      intro q N hd hN
      obtain ⟨N, rfl⟩ : ∃ k, N = k + 1 := ⟨N - 1, by omega⟩
      exact ((c_bs1 (F := F) (rec := ll_Way_bestStep_25 F N) h hn hw e (by omega)).2 (kl q (by omega))).trans (ih (q + 1) N (by omega) (by omega))
  unfold f_Way_bestStep
  rw [h.2.1, nI_p6.1, o_let_eq, nI_p6.2, o_gd_t, o_let_eq, nI_p6.2, o_gd_t, (ix_mod hn).1, (ix_mod hn).2]
  exact key s 0 F (by omega) (by omega)
theorem c_behind (h : Rc m0 a0 c p d) {n s x : Nat} (hn : n / 32 < p6 c) (hw : n % 32 < 2 ^ p) (e : tcG m0 c p n s = some x) : f_Way_behind a0 (nI (ix c n)) (nI s) m0 = some (nI (ix c x)) := by
  obtain ⟨h0, h7, _⟩ := h
  have pb := (p6_b (a := c)).2
  obtain ⟨_, h11, q, g1, g2, g3⟩ := toG_iff.mp e
  obtain ⟨i1, i2⟩ := stT_in h0.1 h0.2.1 hn hw g1
  obtain ⟨j1, j2, _⟩ := stT_some (show n / 32 < 216 by omega) (show n % 32 < 32 by omega) h0.2.1 g1
  have xl : q.2 * p6 c + q.1 < 6912 := by
    rw [← ix_p j2]
    exact ix_lt (by rw [show (32 * q.1 + q.2) / 32 = q.1 by omega]; exact i1)
  unfold f_Way_behind
  rw [if_pos (show (0 : Int32) ≤ nI s from nI_le (a := 0) (by omega) (by omega)), h7, nI_p6.1, o_let_eq, nI_p6.2, o_gd_t, o_let_eq, nI_p6.2, o_gd_t, (ix_mod hn).1, (ix_mod hn).2, c_next h0 h7 (show n / 32 < 216 by omega) (by omega) h11, g1, o_b_some]
  show o_b (f_Way_isPlace (nI (q.2 * p6 c + q.1)) m0) _ = _
  rw [c_isPl xl, o_b_some, if_neg (by decide), g3, ix_p j2]
/-- one step on: both take the same -/
theorem both_step (h : Rc m0 a0 c p d) (r : Rr m0 mr c p dM) (t : Tb (stB m0 c p) c p (cB1 (hG m0) 10000) (gG m0 c p true) dM) {F n H S : Nat} (hF : 20000 ≤ F) (hn : n / 32 < p6 c) (hw : n % 32 < 2 ^ p) (e : dM n = some (10000 * H + S)) (hS1 : S ≤ 1295) (hS : S ≠ 0) : ∃ s x H', s < 11 ∧ x / 32 < p6 c ∧ x % 32 < 2 ^ p ∧ dM x = some (10000 * H' + (S - 1)) ∧ f_Mod_firstStep F (nI n) mr = some (nI s) ∧ f_Mod_stepTo (nI n / 32) (nI n % 32) (nI s) mr = some (nI x) ∧ f_Way_bestStep F a0 (nI (ix c n)) m0 = some (nI s) ∧ f_Way_behind a0 (nI (ix c n)) (nI s) m0 = some (nI (ix c x)) := by
  have h0 := h.1
  have ok := stB_ok h0
  have pb := (p6_b (a := c)).2
  have n6 : n < 6912 := by omega
  have two : Two m0 c p (d 0) dM := ⟨h.tb, t⟩
  obtain ⟨s, x, H', s11, eT, k, kl, xl, ex⟩ := sP_first h0 two n6 e hS1 hS
  have hx := stB_iff.mp (toG_f ok eT).2.2.2.1
  have hC : ∃ v, d 0 n = some v := by
    rcases two.at h0 n6 with ⟨_, z⟩ | ⟨H1, S1, _, _, _, z, _⟩
    · rw [z] at e
      exact absurd e (by simp)
    · exact ⟨_, z⟩
  obtain ⟨v, ev⟩ := hC
  refine ⟨s, x, H', s11, hx.1, hx.2.1, ex, m_first h0 r t hF n6 e s11 k kl, ?_, c_best h hF hn hw ev s11 ((sP_two h0 two n6).mpr k) (fun q hq z => kl q hq ((sP_two h0 two n6).mp z)), c_behind h hn hw eT⟩
  obtain ⟨hp, fp, hs, he⟩ := r
  have := m_stepG ok hp hs n6 (snd_st ok gG_st t.1.t e) s11
  rw [this, show toG (stB m0 c p) c p n s = some x from eT]
  rfl
theorem way_l (h : Rc m0 a0 c p d) (r : Rr m0 mr c p dM) (t : Tb (stB m0 c p) c p (cB1 (hG m0) 10000) (gG m0 c p true) dM) {F : Nat} (hF : 20000 ≤ F) {x3 : Int32} : ∀ (S n k H N : Nat), n / 32 < p6 c → n % 32 < 2 ^ p → dM n = some (10000 * H + S) → S + k ≤ 1295 → S < N → (∀ w, x3 = nI w → k ≤ w → w < k + S → ∀ N', w - k < N' → ∃ s, ll_Mod_way_111 F N x3 (nI n) (nI k) mr = some (nI s, mr) ∧ ll_Way_stepOfWay_5 F N' a0 x3 (nI (ix c n)) (nI k) m0 = some (nI s)) ∧ ((∀ w, w < k + S → ¬ (k ≤ w ∧ x3 = nI w)) → ll_Mod_way_111 F N x3 (nI n) (nI k) mr = some (-1, mr))
  | 0, n, k, H, N, hn, hw, e, hk, hN => by
    obtain ⟨N, rfl⟩ : ∃ q, N = q + 1 := ⟨N - 1, by omega⟩
    have pb := (p6_b (a := c)).2
    have n6 : n < 6912 := by omega
    have H0 : H = 0 := by
      rcases (show Two m0 c p (d 0) dM from ⟨h.tb, t⟩).at h.1 n6 with ⟨_, z⟩ | ⟨H1, S1, s1, _, z0, _, z⟩
      · rw [z] at e
        exact absurd e (by simp)
      · rw [z] at e
        have := Option.some.inj e
        by_cases q : S1 = 0
        · have := z0 q
          omega
        · omega
    subst H0
    refine ⟨fun w _ h1 h2 => by omega, fun _ => ?_⟩
    show lb_Mod_way_111 F (ll_Mod_way_111 F N) x3 (nI n) (nI k) mr = _
    unfold lb_Mod_way_111
    rw [inb_nI n6 (by decide), o_gd_t, nI_clamp (by omega), r.2.2.2 n n6, e, if_pos (by decide)]
  | S + 1, n, k, H, N, hn, hw, e, hk, hN => by
    obtain ⟨N, rfl⟩ : ∃ q, N = q + 1 := ⟨N - 1, by omega⟩
    have pb := (p6_b (a := c)).2
    have n6 : n < 6912 := by omega
    have eb := snd_bd (stB_ok h.1) (cB_C h.1) t.1 n6 e
    obtain ⟨s, x, H', s11, x1, x2, ex, e1, e2, e3, e4⟩ := both_step h r t hF hn hw e (by omega) (by omega)
    obtain ⟨ih1, ih2⟩ := way_l h r t hF (x3 := x3) S x (k + 1) H' N x1 x2 ex (by omega) (by omega)
    have un : ll_Mod_way_111 F (N + 1) x3 (nI n) (nI k) mr = (if nI k = x3 then some (nI s, mr) else ll_Mod_way_111 F N x3 (nI x) (nI (k + 1)) mr) := by
      show lb_Mod_way_111 F (ll_Mod_way_111 F N) x3 (nI n) (nI k) mr = _
      unfold lb_Mod_way_111
      rw [inb_nI n6 (by decide), o_gd_t, nI_clamp (by omega), r.2.2.2 n n6, e, show enM (some (10000 * H + (S + 1))) = nI (10000 * H + (S + 1)) from rfl, if_neg (show ¬ nI (10000 * H + (S + 1)) ≤ 0 from nI_ge (b := 10000 * H + (S + 1)) (a := 0) (by omega) (by omega)), e1, o_b_some, e2, o_b_some, show nI k + 1 = nI (k + 1) from nI_add k 1]
    rw [un]
    refine ⟨fun w hx h1 h2 N' hN' => ?_, fun hno => ?_⟩
    · obtain ⟨N', rfl⟩ : ∃ q, N' = q + 1 := ⟨N' - 1, by omega⟩
      by_cases z : k = w
      · refine ⟨s, if_pos (by rw [hx, z]), ?_⟩
        show lb_Way_stepOfWay_5 F (ll_Way_stepOfWay_5 F N') a0 x3 (nI (ix c n)) (nI k) m0 = _
        unfold lb_Way_stepOfWay_5 b_Way_stepOfWay_36
        rw [hx, z, if_pos (nI_le (Nat.le_refl _) (by omega)), e3, o_b_some]
      · obtain ⟨s', q1, q2⟩ := ih1 w hx (by omega) (by omega) N' (by omega)
        refine ⟨s', ?_, ?_⟩
        · rw [if_neg (fun y => z (nI_inj (by omega) (by omega) (y.trans hx)))]
          exact q1
        · show lb_Way_stepOfWay_5 F (ll_Way_stepOfWay_5 F N') a0 x3 (nI (ix c n)) (nI k) m0 = _
          unfold lb_Way_stepOfWay_5
          rw [hx, if_neg (show ¬ nI w ≤ nI k from nI_ge (by omega) (by omega)), if_neg (show ¬ (2048 : Int32) ≤ nI k from nI_ge (b := 2048) (by omega) (by decide)), e3, o_b_some, e4, o_b_some, show nI k + 1 = nI (k + 1) from nI_add k 1, ← hx]
          exact q2
    · rw [if_neg (fun y => hno k (by omega) ⟨Nat.le_refl _, y.symm⟩)]
      exact ih2 (fun w hw' z => hno w (by omega) ⟨by omega, z.2⟩)
end
