/-! WAYS: the reference's tables -/
noncomputable def stB (m : aM) (c p n : Nat) : Bool := @decide (n / 32 < p6 c ∧ n % 32 < 2 ^ p ∧ stdP m c p (n / 32) (nI (n % 32))) (Classical.propDecidable _)
theorem stB_iff {m : aM} {c p n : Nat} : stB m c p n = true ↔ n / 32 < p6 c ∧ n % 32 < 2 ^ p ∧ stdP m c p (n / 32) (nI (n % 32)) := by
  unfold stB
  exact @decide_eq_true_iff _ (Classical.propDecidable _)
theorem stB_ok {m : aM} {c p : Nat} (h : iPl m c p) : stOk (stB m c p) c p := ⟨h.1, h.2.1, fun n k => ⟨(stB_iff.mp k).1, (stB_iff.mp k).2.1⟩⟩
theorem stB_fr {m m' : aM} {c p : Nat} (f : ∀ b j, b = 31 ∨ b = 33 ∨ b = 34 → m' b j = m b j) : stB m' c p = stB m c p := by
  funext n
  have : (stB m' c p n = true) ↔ (stB m c p n = true) := by
    rw [stB_iff, stB_iff, stdP_fr f]
  cases h1 : stB m' c p n <;> cases h2 : stB m c p n <;> simp_all
theorem shl_p : ∀ p, p < 6 → ((1 : Int32) <<< (nI p &&& 31)) - 1 = nI (2 ^ p - 1) := by decide +kernel
theorem nodP_iff {c p n w : Nat} (hp : p ≤ 5) (hn : n < 2 ^ 31) (hw : w < 2 ^ 31) : nodP c p (nI n) (nI w) ↔ n < p6 c ∧ w < 2 ^ p := by
  have pb := p6_b (a := c)
  have q : 0 < 2 ^ p := Nat.pow_pos (by decide)
  have q2 : 2 ^ p ≤ 2 ^ 5 := Nat.pow_le_pow_right (by decide) hp
  have e1 : nI (p6 c) - 1 = nI (p6 c - 1) := nI_subn (b := 1) pb.1
  unfold nodP
  rw [e1, shl_p p (by omega), nI_leI hn (by omega), nI_leI hw (by omega)]
  have z1 : (0 : Int32) ≤ nI n := nI_le (a := 0) (by omega) hn
  have z2 : (0 : Int32) ≤ nI w := nI_le (a := 0) (by omega) hw
  constructor
  · rintro ⟨⟨_, a⟩, _, b⟩
    omega
  · rintro ⟨a, b⟩
    exact ⟨⟨z1, by omega⟩, z2, by omega⟩
section
variable {m0 : aM} {st : Nat → Bool} {c p : Nat} {k : Bool} {G : Nat → Prop}
theorem snd_lt (ok : stOk st c p) (hG : ∀ n, G n → st n = true) {co : Nat → Nat → Nat} {d : Nat → Option Nat} (h : sndT (toG st c p) co G d) {n w : Nat} (e : d n = some w) : n < 6912 := by
  obtain ⟨l, z, z1, z2⟩ := h n w e
  cases l with
  | nil =>
    have : n = z ∧ 0 = w := by simpa [wr] using z1
    rw [this.1]
    exact ok.lt (hG z z2)
  | cons s l =>
    obtain ⟨x, u, h1, _⟩ := wr_cons.mp z1
    exact (toG_f ok h1).1
theorem upA.fix (ok : stOk st c p) (hG : ∀ n, G n → st n = true) {co : Nat → Nat → Nat} {d d' : Nat → Option Nat} (h : upA st c p co G d) (hs : sndT (toG st c p) co G d) (hd : sndT (toG st c p) co G d') (l : dle d' d) : d' = d := by
  funext n
  by_cases hn : n < 6912
  · exact h.eq hs hd l hn
  · cases e : d n with
    | none =>
      cases e' : d' n with
      | none => rfl
      | some w => exact absurd (snd_lt ok hG hd e') hn
    | some w => exact absurd (snd_lt ok hG hs e) hn
theorem m_fb127 (ok : stOk st c p) (h0 : iPl m0 c p) (hs0 : ∀ j, j < 6912 → m0 8472 j = if st j then 1 else 0) (hG : ∀ n, G n → st n = true) {F : Nat} (hF : 20000 ≤ F) : ∀ (j q N : Nat) (m : aM) (d : Nat → Option Nat), j + q = 6911 → j + 2 ≤ N → fB m0 m → fE m d → sndS (toG st c p) (coM m0 k) G d → upK (toG st c p) (coM m0 k) G 6912 q d → ∃ m1 d1, ll_Mod_findBest_127 F N (kI k) 1 m = some (0, m1) ∧ fB m0 m1 ∧ fE m1 d1 ∧ Tb st c p (coM m0 k) G d1 := fun j => by
  induction j with
  | zero =>
    intro q N m d hj hN f he hS hu
    obtain ⟨N, rfl⟩ : ∃ q, N = q + 2 := ⟨N - 2, by omega⟩
    obtain ⟨m1, y4, d1, e1, f1, he1, hS1, le1, at1, ch⟩ := m_fb140 (k := k) (G := G) (F := F) (r127 := ll_Mod_findBest_127 F (N + 1)) ok h0 hs0 hF 6912 F 0 m d (by omega) (by omega) f he hS
    have ua : upA st c p (coM m0 k) G d := fun l n e v hn h1 h2 => hu.all (toG_N ok) (by omega) hn h1 h2
    have ed : d1 = d := ua.fix ok hG hS.t hS1.t le1
    rcases ch with ⟨_, c2⟩ | ⟨c1, _⟩
    · refine ⟨m1, d1, ?_, f1, he1, hS1, by rw [ed]; exact ua⟩
      show lb_Mod_findBest_127 F (ll_Mod_findBest_127 F (N + 1)) (kI k) 1 m = _
      unfold lb_Mod_findBest_127
      rw [if_neg (by decide)]
      refine e1.trans ?_
      rw [c2]
      show lb_Mod_findBest_127 F (ll_Mod_findBest_127 F N) (kI k) 0 m1 = _
      unfold lb_Mod_findBest_127
      rw [if_pos rfl]
    · exact absurd ed c1
  | succ j ih =>
    intro q N m d hj hN f he hS hu
    obtain ⟨N, rfl⟩ : ∃ q, N = q + 2 := ⟨N - 2, by omega⟩
    obtain ⟨m1, y4, d1, e1, f1, he1, hS1, le1, at1, ch⟩ := m_fb140 (k := k) (G := G) (F := F) (r127 := ll_Mod_findBest_127 F (N + 1)) ok h0 hs0 hF 6912 F 0 m d (by omega) (by omega) f he hS
    have hg : ∀ n, G n → d n = some 0 := fun n g => by
      obtain ⟨w, w1, w2⟩ := hu [] n n 0 (by simp) (ok.lt (hG n g)) rfl g
      rw [w1]
      congr 1
      omega
    have hg1 : ∀ n, G n → d1 n = some 0 := fun n g => by
      obtain ⟨w, w1, w2⟩ := le1 n 0 (hg n g)
      rw [w1]
      congr 1
      omega
    have st1 : ll_Mod_findBest_127 F (N + 2) (kI k) 1 m = ll_Mod_findBest_127 F (N + 1) (kI k) y4 m1 := by
      show lb_Mod_findBest_127 F (ll_Mod_findBest_127 F (N + 1)) (kI k) 1 m = _
      unfold lb_Mod_findBest_127
      rw [if_neg (by decide)]
      exact e1
    rcases ch with ⟨c1, c2⟩ | ⟨c1, c2⟩
    · refine ⟨m1, d1, ?_, f1, he1, hS1, fun l n e v hn h1 h2 => below hg1 (fun n s x u z1 z2 => ?_) l n e v h1 h2⟩
      · rw [st1, c2]
        show lb_Mod_findBest_127 F (ll_Mod_findBest_127 F N) (kI k) 0 m1 = _
        unfold lb_Mod_findBest_127
        rw [if_pos rfl]
      · rw [c1] at z2
        exact at1 n s x u (toG_f ok z1).1 z1 z2
    · rw [c2] at st1
      rw [st1]
      exact ih (q + 1) (N + 1) m1 d1 (by omega) (by omega) f1 he1 hS1 (hu.s (toG_N ok) hg1 (fun n s x u hn z1 z2 => at1 n s x u hn z1 z2))
end
/-- the goal's node -/
def gl (b : Bool) (a : Nat) : Nat := if b then p6 a - 1 else 0
abbrev fB2 (m0 m : aM) : Prop := ∀ b j, ¬ (b = 8471 ∨ b = 8472) → m b j = m0 b j
noncomputable def gG (m : aM) (c p : Nat) (b : Bool) (n : Nat) : Prop := n / 32 = gl b c ∧ stB m c p n = true
theorem m_fb33 {F c p g : Nat} {k : Bool} {x2 : Int32} {m0 : aM} (h0 : iPl m0 c p) (hF : 20000 ≤ F) (hg : g < 216) : ∀ (dd i N : Nat) (m : aM), i + dd = 6912 → dd < N → fB2 m0 m → ∃ m1, ll_Mod_findBest_33 F N x2 (nI g) (nI i) m = ll_Mod_findBest_127 F F x2 1 m1 ∧ fB2 m0 m1 ∧ (∀ j, j < i → m1 8471 j = m 8471 j ∧ m1 8472 j = m 8472 j) ∧ ∀ j, i ≤ j → j < 6912 → m1 8472 j = (if stB m0 c p j then 1 else 0) ∧ m1 8471 j = (if j / 32 = g ∧ stB m0 c p j = true then 0 else -1)
  | 0, i, N, m, hd, hN, f => by
    obtain ⟨N, rfl⟩ : ∃ q, N = q + 1 := ⟨N - 1, by omega⟩
    refine ⟨m, ?_, f, fun _ _ => ⟨rfl, rfl⟩, fun j h1 h2 => by omega⟩
    show lb_Mod_findBest_33 F (ll_Mod_findBest_33 F N) x2 (nI g) (nI i) m = _
    unfold lb_Mod_findBest_33
    rw [if_pos (show (6912 : Int32) ≤ nI i from nI_le (a := 6912) (by omega) (by omega))]
  | dd + 1, i, N, m, hd, hN, f => by
    obtain ⟨N, rfl⟩ : ∃ q, N = q + 1 := ⟨N - 1, by omega⟩
    have hi : i < 6912 := by omega
    have hp : iPl m c p := h0.fr (fun b j hb => f b j (by omega))
    have ib : inb (nI i) 6912 = true := inb_nI hi (by decide)
    have ci : (nI i).toNatClampNeg = i := nI_clamp (by omega)
    have e0 : lb_Mod_findBest_33 F (ll_Mod_findBest_33 F N) x2 (nI g) (nI i) m = b_Mod_findBest_86 F (ll_Mod_findBest_33 F N) x2 (nI g) (nI i) (if stB m0 c p i then 1 else 0) (nI i) m := by
      unfold lb_Mod_findBest_33 b_Mod_findBest_85
      rw [if_neg (show ¬ (6912 : Int32) ≤ nI i from nI_ge (b := 6912) hi (by decide)), show nI i / 32 = nI (i / 32) from nI_div (b := 32) (by omega) (by decide), show nI i % 32 = nI (i % 32) from nI_mod (b := 32) (by omega) (by decide), m_isNode hp, o_b_some]
      by_cases nd : i / 32 < p6 c ∧ i % 32 < 2 ^ p
      · rw [if_pos ((nodP_iff hp.2.1 (by omega) (by omega)).mpr nd), if_neg (by decide)]
        obtain ⟨y, e, y1, y2⟩ := m_stand (F := F) (n := i / 32) (w := nI (i % 32)) hp (by omega) (by omega)
        rw [e, o_b_some]
        have y3 : y = 1 ↔ stB m0 c p i = true := by
          rw [y2, stB_iff, stdP_fr (fun b j hb => f b j (by omega))]
          exact ⟨fun z => ⟨nd.1, nd.2, z⟩, fun z => z.2.2⟩
        rcases y1 with y1 | y1
        · rw [if_pos y1, if_neg (fun z => by have := y3.mpr z; rw [y1] at this; exact absurd this (by decide))]
        · rw [y1, if_neg (by decide), if_pos (y3.mp y1)]
      · rw [if_neg (fun z => nd ((nodP_iff hp.2.1 (by omega) (by omega)).mp z)), if_pos rfl, if_neg (fun z => nd ⟨(stB_iff.mp z).1, (stB_iff.mp z).2.1⟩)]
    let m1 : aM := a_st (a_st m 8472 i (if stB m0 c p i then 1 else 0)) 8471 i (if i / 32 = g ∧ stB m0 c p i = true then 0 else -1)
    have e1 : b_Mod_findBest_86 F (ll_Mod_findBest_33 F N) x2 (nI g) (nI i) (if stB m0 c p i then 1 else 0) (nI i) m = ll_Mod_findBest_33 F N x2 (nI g) (nI (i + 1)) m1 := by
      unfold b_Mod_findBest_86 b_Mod_findBest_116 b_Mod_findBest_117
      rw [ib, o_gd_t, show isb (if stB m0 c p i then 1 else 0) = true by by_cases z : stB m0 c p i = true <;> simp [z, isb], o_gd_t, o_let_eq, ci, o_gd_t, o_gd_t, o_let_eq, o_let_eq, a_st_self, show nI i / 32 = nI (i / 32) from nI_div (b := 32) (by omega) (by decide), show nI i + 1 = nI (i + 1) from nI_add i 1]
      by_cases g1 : i / 32 = g
      · rw [if_pos (by rw [g1])]
        by_cases s1 : stB m0 c p i = true
        · rw [if_neg (show ¬ (if stB m0 c p i then (1 : Int32) else 0) = 0 by rw [if_pos s1]; decide)]
          show _ = ll_Mod_findBest_33 F N x2 (nI g) (nI (i + 1)) (a_st (a_st m 8472 i (if stB m0 c p i then 1 else 0)) 8471 i (if i / 32 = g ∧ stB m0 c p i = true then 0 else -1))
          rw [if_pos (show i / 32 = g ∧ stB m0 c p i = true from ⟨g1, s1⟩), o_gd_t]
        · rw [if_pos (show (if stB m0 c p i then (1 : Int32) else 0) = 0 by rw [if_neg s1])]
          show _ = ll_Mod_findBest_33 F N x2 (nI g) (nI (i + 1)) (a_st (a_st m 8472 i (if stB m0 c p i then 1 else 0)) 8471 i (if i / 32 = g ∧ stB m0 c p i = true then 0 else -1))
          rw [if_neg (show ¬ (i / 32 = g ∧ stB m0 c p i = true) from fun z => s1 z.2)]
      · rw [if_neg (show ¬ nI (i / 32) = nI g from fun z => g1 (nI_inj (by omega) (by omega) z))]
        show _ = ll_Mod_findBest_33 F N x2 (nI g) (nI (i + 1)) (a_st (a_st m 8472 i (if stB m0 c p i then 1 else 0)) 8471 i (if i / 32 = g ∧ stB m0 c p i = true then 0 else -1))
        rw [if_neg (show ¬ (i / 32 = g ∧ stB m0 c p i = true) from fun z => g1 z.1)]
    have r1 : ∀ j, m1 8472 j = if j = i then (if stB m0 c p i then 1 else 0) else m 8472 j := fun j => by
      show a_st (a_st m 8472 i _) 8471 i _ 8472 j = _
      rw [a_st_no (by omega), a_rd]
      by_cases z : j = i
      · rw [if_pos ⟨rfl, z⟩, if_pos z]
      · rw [if_neg (fun q => z q.2), if_neg z]
    have r2 : ∀ j, m1 8471 j = if j = i then (if i / 32 = g ∧ stB m0 c p i = true then 0 else -1) else m 8471 j := fun j => by
      show a_st (a_st m 8472 i _) 8471 i _ 8471 j = _
      rw [a_rd]
      by_cases z : j = i
      · rw [if_pos ⟨rfl, z⟩, if_pos z]
      · rw [if_neg (fun q => z q.2), if_neg z, a_st_no (by omega)]
    obtain ⟨m2, e2, f2, l2, g2⟩ := m_fb33 (k := k) (x2 := x2) h0 hF hg dd (i + 1) N m1 (by omega) (by omega) (fun b j hb => by
      show a_st (a_st m 8472 i _) 8471 i _ b j = _
      rw [a_st_no (fun z => hb (Or.inl z.1)), a_st_no (fun z => hb (Or.inr z.1))]
      exact f b j hb)
    refine ⟨m2, (show ll_Mod_findBest_33 F (N + 1) x2 (nI g) (nI i) m = _ from e0.trans e1).trans e2, f2, fun j hj => ?_, fun j h1 h2 => ?_⟩
    · have := l2 j (by omega)
      rw [this.1, this.2, r1, r2, if_neg (by omega), if_neg (by omega)]
      exact ⟨rfl, rfl⟩
    · by_cases z : j = i
      · subst z
        have := l2 j (by omega)
        rw [this.1, this.2, r1, r2, if_pos rfl, if_pos rfl]
        exact ⟨rfl, rfl⟩
      · exact g2 j (by omega) h2
theorem gl_up : ∀ b : Bool, ∀ a, a < 3 → nI (gl b a) + (if b then (5 : Int32) else 0) * nI (p6 a) = nI (gl b (a + 1)) := by decide +kernel
theorem gl_216 {b : Bool} {a : Nat} : gl b a < 216 := by
  have := p6_b (a := a)
  unfold gl
  cases b
  · exact (by decide : (0 : Nat) < 216)
  · show p6 a - 1 < 216
    omega
theorem m_fb5 {F c p : Nat} {b : Bool} {x2 : Int32} {m : aM} (h : iPl m c p) : ∀ (dd a N : Nat), a + dd = c → dd < N → ll_Mod_findBest_5 F N (if b then 5 else 0) x2 (nI (gl b a)) (nI a) m = ll_Mod_findBest_33 F F x2 (nI (gl b c)) 0 m
  | 0, a, N, hd, hN => by
    obtain ⟨N, rfl⟩ : ∃ q, N = q + 1 := ⟨N - 1, by omega⟩
    obtain rfl : a = c := by omega
    show lb_Mod_findBest_5 F (ll_Mod_findBest_5 F N) _ x2 (nI (gl b a)) (nI a) m = _
    unfold lb_Mod_findBest_5
    rw [h.2.2.2.1, if_pos (nI_le (Nat.le_refl _) (by have := h.1; omega))]
  | dd + 1, a, N, hd, hN => by
    obtain ⟨N, rfl⟩ : ∃ q, N = q + 1 := ⟨N - 1, by omega⟩
    have c3 := h.1
    show lb_Mod_findBest_5 F (ll_Mod_findBest_5 F N) _ x2 (nI (gl b a)) (nI a) m = _
    unfold lb_Mod_findBest_5
    rw [h.2.2.2.1, if_neg (show ¬ nI c ≤ nI a from nI_ge (by omega) (by omega)), m_power (by omega), o_b_some, gl_up b a (by omega), show nI a + 1 = nI (a + 1) from nI_add a 1]
    exact m_fb5 h dd (a + 1) N (by omega) (by omega)
theorem m_findBest {F c p : Nat} {b k : Bool} {m : aM} (h : iPl m c p) (hF : 20000 ≤ F) : ∃ m1 d, f_Mod_findBest F (if b then 5 else 0) (kI k) m = some (0, m1) ∧ fB2 m m1 ∧ (∀ j, j < 6912 → m1 8472 j = if stB m c p j then 1 else 0) ∧ fE m1 d ∧ Tb (stB m c p) c p (coM m k) (gG m c p b) d := by
  have ok := stB_ok h
  obtain ⟨m1, e1, f1, _, g1⟩ := m_fb33 (k := k) (x2 := kI k) (g := gl b c) h hF gl_216 6912 0 F m (by omega) (by omega) (fun _ _ _ => rfl)
  have h1 : iPl m1 c p := h.fr (fun b j hb => f1 b j (by omega))
  have ec : coM m1 k = coM m k := by
    unfold coM
    have : (fun n s => hS m1 (n / 32) s) = fun n s => hS m (n / 32) s := by
      funext n s
      unfold hS
      rw [f1 30 _ (by omega), f1 32 _ (by omega)]
    rw [this]
  let d0 : Nat → Option Nat := fun n => @ite _ (gG m c p b n) (Classical.propDecidable _) (some 0) none
  have d0p : ∀ n, gG m c p b n → d0 n = some 0 := fun n g => @if_pos _ (Classical.propDecidable _) g _ _ _
  have d0n : ∀ n, ¬ gG m c p b n → d0 n = none := fun n g => @if_neg _ (Classical.propDecidable _) g _ _ _
  have hG : ∀ n, gG m c p b n → stB m c p n = true := fun n g => g.2
  obtain ⟨m2, d, e2, f2, he, tb⟩ := m_fb127 (m0 := m1) (k := k) (G := gG m c p b) ok h1 (fun j hj => (g1 j (by omega) hj).1) hG hF 6911 0 F m1 d0 (by omega) (by omega) (fun _ _ _ => rfl) (fun n hn => by
    rw [(g1 n (by omega) hn).2]
    by_cases z : n / 32 = gl b c ∧ stB m c p n = true
    · rw [if_pos z, d0p n z]
      rfl
    · rw [if_neg z, d0n n z]
      rfl) (sndS.z (fun n w e => by
    by_cases z : gG m c p b n
    · rw [d0p n z] at e
      exact ⟨(Option.some.inj e).symm, z⟩
    · rw [d0n n z] at e
      exact absurd e (by simp))) (upK.z d0p)
  rw [ec] at tb
  refine ⟨m2, d, ?_, fun b j hb => by rw [f2 b j (fun z => hb (Or.inl z))]; exact f1 b j hb, fun j hj => by rw [f2 _ _ (by decide)]; exact (g1 j (by omega) hj).1, he, tb⟩
  show ll_Mod_findBest_5 F F (if b then 5 else 0) (kI k) 0 0 m = _
  have e5 := m_fb5 (F := F) (b := b) (x2 := kI k) h c 0 F (by omega) (by have := h.1; omega)
  have z0 : nI (gl b 0) = 0 := by cases b <;> rfl
  rw [z0] at e5
  exact e5.trans (e1.trans e2)
