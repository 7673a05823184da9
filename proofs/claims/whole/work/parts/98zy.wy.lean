/-! THE WAYS BETWEEN CALLS: a: the plan's age -/
theorem GC_fr {m m' : aM} {c p : Nat} (f : ∀ b j, b = 31 ∨ b = 33 ∨ b = 34 → m' b j = m b j) : GC m' c p = GC m c p := by
  funext i n
  unfold GC gG
  rw [stB_fr f]
theorem WV.fr {m m' : aM} {w c p : Nat} (h : WV m w c p) (f1 : ∀ b j, 30 ≤ b ∧ b ≤ 34 → m' b j = m b j) (f2 : ∀ b j, w ≤ b ∧ b ≤ w + 6 → m' b j = m b j) : WV m' w c p := by
  obtain ⟨h7, d, he, hT⟩ := h
  refine ⟨(f2 _ _ (by omega)).trans h7, d, fun n n1 n2 n3 i => ?_, fun i => ?_⟩
  · rw [f2 _ _ (by omega)]
    exact he n n1 n2 n3 i
  · rw [stB_fr (fun b j hb => f1 b j (by omega)), coC_fr (fun b j hb => f1 b j (by omega)), GC_fr (fun b j hb => f1 b j (by omega))]
    exact hT i
/-- the ways at w are of an age b; worked at this age, they hold what the plan asks -/
def Wy (m : aM) (a w : Nat) : Prop := ∃ b, b ≤ a ∧ m w 8 = nI b ∧ (b = a → ∃ c p, m 29 5 = nI c ∧ m 29 6 = nI p ∧ c ≤ 3 ∧ p ≤ 5 ∧ WV m w c p)
/-- the plan stands as it was -/
def Pst (m m2 : aM) : Prop := ∀ b j, (b = 29 ∧ (j = 5 ∨ j = 6 ∨ j = 7)) ∨ (30 ≤ b ∧ b ≤ 34) → m2 b j = m b j
theorem Wy.st {m m2 : aM} {a w : Nat} (h : Wy m a w) (f1 : Pst m m2) (f2 : ∀ b j, w ≤ b ∧ b ≤ w + 6 → m2 b j = m b j) : Wy m2 a w := by
  obtain ⟨b, b1, b2, b3⟩ := h
  refine ⟨b, b1, (f2 _ _ (by omega)).trans b2, fun e => ?_⟩
  obtain ⟨c, p, c1, c2, c3, c4, c5⟩ := b3 e
  exact ⟨c, p, (f1 _ _ (by omega)).trans c1, (f1 _ _ (by omega)).trans c2, c3, c4, c5.fr (fun b j hb => f1 b j (by omega)) f2⟩
theorem Wy.up {m m2 : aM} {a w : Nat} (h : Wy m a w) (f2 : ∀ b j, w ≤ b ∧ b ≤ w + 6 → m2 b j = m b j) : Wy m2 (a + 1) w := by
  obtain ⟨b, b1, b2, b3⟩ := h
  exact ⟨b, by omega, (f2 _ _ (by omega)).trans b2, fun e => by omega⟩
theorem z_worked {F w a : Nat} {m mw : aM} (hF : 20000 ≤ F) (hw : 8692 ≤ w) {c p : Nat} (hp : iPl m c p) (fm : ∀ b j, b < 8692 → mw b j = m b j) (ha : m 29 7 = nI a) (ha2 : a < 1000) (W : Wy mw a w) : ∃ m1, f_Way_workIfStale F w mw = some (0, m1) ∧ (∀ b j, ¬ (w ≤ b ∧ b ≤ w + 6) → m1 b j = mw b j) ∧ m1 w 8 = nI a ∧ ∃ d, Rc m1 w c p d := by
  obtain ⟨b, b1, b2, b3⟩ := W
  have hpw : iPl mw c p := hp.fr (fun b j hb => fm b j (by omega))
  have h7 : mw 29 7 = nI a := (fm _ _ (by decide)).trans ha
  by_cases e : b = a
  · subst e
    obtain ⟨c', p', q1, q2, q3, q4, v1, d, v2, v3⟩ := b3 rfl
    have ec : c' = c := nI_inj (by omega) (by have := hpw.1; omega) (q1.symm.trans hpw.2.2.1)
    have ep : p' = p := nI_inj (by omega) (by have := hpw.2.1; omega) (q2.symm.trans hpw.2.2.2.2.1)
    subst ec
    subst ep
    refine ⟨mw, ?_, fun _ _ _ => rfl, b2, d, hpw, v1, v2, v3⟩
    unfold f_Way_workIfStale
    rw [if_pos (b2.trans h7.symm)]
  · obtain ⟨m1, e1, f1, e8, v1, d, v2, v3⟩ := c_work (a0 := w) hF hpw hw (fun q => e (nI_inj (by omega) (by omega) (b2.symm.trans (q.trans h7))))
    exact ⟨m1, e1, fun b j hb => f1 b j (by omega), e8.trans h7, d, hpw.fr (fun b j hb => f1 b j (by omega)), v1, v2, v3⟩
theorem wy_fin {w a c p : Nat} {m mw m1 m2 : aM} {d : D3} {zz : Nat → Prop} (hw : 8692 ≤ w) (h : Iv m) (fm : ∀ b j, b < 8692 → mw b j = m b j) (f1 : ∀ b j, ¬ (w ≤ b ∧ b ≤ w + 6) → m1 b j = mw b j) (r8 : m1 w 8 = nI a) (R : Rc m1 w c p d) (f2 : ∀ b j, ¬ (b = 8471 ∨ b = 8472 ∨ b = 242 ∧ j = 0 ∨ (8692 ≤ b ∧ zz b)) → m2 b j = m1 b j) (hz : ∀ b, w ≤ b ∧ b ≤ w + 6 → ¬ zz b) : Iv m2 ∧ Pst m m2 ∧ Wy m2 a w ∧ ∀ b j, 8692 ≤ b → ¬ (w ≤ b ∧ b ≤ w + 6) → ¬ zz b → m2 b j = mw b j := by
  have lo : ∀ b j, b < 8692 → ¬ (b = 8471 ∨ b = 8472 ∨ b = 242 ∧ j = 0) → m2 b j = m b j := fun b j hb n => by
    rw [f2 b j (by omega), f1 b j (by omega), fm b j hb]
  have ps1 : Pst m1 m2 := fun b j hb => f2 b j (by omega)
  refine ⟨h.fr (fun b j hb => ?_), fun b j hb => lo b j (by omega) (by omega), ⟨a, Nat.le_refl _, (f2 _ _ (fun q => ?_)).trans r8, fun _ => ⟨c, p, (ps1 _ _ (by omega)).trans R.1.2.2.1, (ps1 _ _ (by omega)).trans R.1.2.2.2.2.1, R.1.1, R.1.2.1, ?_⟩⟩, fun b j hb n1 n2 => ?_⟩
  · unfold sc at hb
    exact lo b j (by omega) (by omega)
  · rcases q with q | q | q | q
    · omega
    · omega
    · omega
    · exact hz w (by omega) q.2
  · have v : WV m1 w c p := ⟨R.2.1, d, R.2.2.1, R.2.2.2⟩
    refine v.fr (fun b j hb => ps1 b j (by omega)) (fun b j hb => f2 b j (fun q => ?_))
    rcases q with q | q | q | q
    · omega
    · omega
    · omega
    · exact hz b hb q.2
  · rw [f2 b j (fun q => q.elim (fun q => by omega) (fun q => q.elim (fun q => by omega) (fun q => q.elim (fun q => by omega) (fun q => n2 q.2)))), f1 b j n1]
/-- what a call on the ways leaves of the memory -/
def WZ (w a : Nat) (zz : Nat → Prop) (r : oX) (m mw m2 : aM) : Prop := Iv m2 ∧ Pst m m2 ∧ match r with
  | .inl _ => Wy m2 a w ∧ ∀ b j, 8692 ≤ b → ¬ (w ≤ b ∧ b ≤ w + 6) → ¬ zz b → m2 b j = mw b j
  | .inr _ => ∀ b j, 8692 ≤ b → m2 b j = m b j
theorem WZ.out {w a : Nat} {zz : Nat → Prop} {E : String} {m mw : aM} {v : Int32} (h : Iv m) : WZ w a zz (.inr E) m mw (a_st m 242 0 v) := ⟨(h.f0 th_fr).1, fun b j hb => a_st_no (by omega), fun b j hb => a_st_no (by omega)⟩
section
variable {F w a : Nat} {m mw : aM}
theorem z_wayI (hF : 20000 ≤ F) (hw : 8692 ≤ w) (h : Iv m) (fm : ∀ b j, b < 8692 → mw b j = m b j) (ha : m 29 7 = nI a) (ha2 : a < 1000) (W : Wy mw a w) (x1 x2 x3 : Int32) : ∃ r m1, u_way F w x1 x2 x3 m mw = some (r, m1) ∧ ∃ v m2, f_Mod_way F x1 x2 x3 m1 = some (v, m2) ∧ Co [IAE] r v (m2 242 0) ∧ WZ w a (fun _ => False) r m mw m2 := by
  obtain ⟨c, p, hp⟩ := h.2.2.2.2.1
  have hp0 : ∀ v, iPl (a_st m 242 0 v) c p := fun v => hp.fr (fun b j hb => by rw [a_st_no (by omega)])
  unfold u_way
  simp only [z_checkNode hp]
  by_cases k : nodP c p x1 x2
  case neg =>
    simp only [if_neg k, o_t_inr]
    refine ⟨_, _, rfl, ?_⟩
    unfold f_Mod_way b_Mod_way_21 b_Mod_way_26
    simp only [o_let_eq, m_isNode (hp0 0), o_b_some, if_neg k, if_true, z_bad1 (show (1 : Int32) ≠ 0 by decide), o_b2_some, show ¬ (1 : Int32) = 0 by decide, if_false]
    exact ⟨_, _, rfl, ⟨0, rfl, a_st_self⟩, WZ.out h⟩
  simp only [if_pos k, o_t_inl]
  by_cases k3 : -2 ≤ x3
  case neg =>
    simp only [if_neg k3]
    refine ⟨_, _, rfl, ?_⟩
    unfold f_Mod_way b_Mod_way_21 b_Mod_way_26
    simp only [o_let_eq, m_isNode (hp0 0), o_b_some, if_pos k, if_neg k3, z_bad1 (show (1 : Int32) ≠ 0 by decide), o_b2_some, show ¬ (1 : Int32) = 0 by decide, if_false]
    exact ⟨_, _, rfl, ⟨0, rfl, a_st_self⟩, WZ.out h⟩
  obtain ⟨n, w', n1, w1, rfl, rfl⟩ := nodP_nw hp.2.1 k
  obtain ⟨m1, e1, f1, r8, d, R⟩ := z_worked hF hw hp fm ha ha2 W
  obtain ⟨y, m2, y1, y2, y3, f2⟩ := q_way R hF n1 w1 k3
  simp only [if_pos k3, e1, o_b2_some, y1, o_b_some]
  obtain ⟨g1, g2, g3, g4⟩ := wy_fin (zz := fun _ => False) hw h fm f1 r8 R (fun b j hb => f2 b j (fun q => hb (by rcases q with q | q | q <;> simp [q]))) (fun _ _ q => q)
  exact ⟨_, _, rfl, _, _, y2, ⟨y3, rfl⟩, g1, g2, g3, g4⟩
theorem z_fewestI (hF : 20000 ≤ F) (hw : 8692 ≤ w) (h : Iv m) (fm : ∀ b j, b < 8692 → mw b j = m b j) (ha : m 29 7 = nI a) (ha2 : a < 1000) (W : Wy mw a w) (x1 x2 : Int32) : ∃ r m1, u_fewest F w x1 x2 m mw = some (r, m1) ∧ ∃ v m2, f_Mod_fewest F x1 x2 m1 = some (v, m2) ∧ Co [IAE] r v (m2 242 0) ∧ WZ w a (fun _ => False) r m mw m2 := by
  obtain ⟨c, p, hp⟩ := h.2.2.2.2.1
  have hp0 : ∀ v, iPl (a_st m 242 0 v) c p := fun v => hp.fr (fun b j hb => by rw [a_st_no (by omega)])
  unfold u_fewest
  simp only [z_checkNode hp]
  by_cases k : nodP c p x1 x2
  case neg =>
    simp only [if_neg k, o_t_inr]
    refine ⟨_, _, rfl, ?_⟩
    unfold f_Mod_fewest b_Mod_fewest_20
    simp only [o_let_eq, m_isNode (hp0 0), o_b_some, if_neg k, if_true, z_bad1 (show (1 : Int32) ≠ 0 by decide), o_b2_some, show ¬ (1 : Int32) = 0 by decide, if_false]
    exact ⟨_, _, rfl, ⟨0, rfl, a_st_self⟩, WZ.out h⟩
  simp only [if_pos k, o_t_inl]
  obtain ⟨n, w', n1, w1, rfl, rfl⟩ := nodP_nw hp.2.1 k
  obtain ⟨m1, e1, f1, r8, d, R⟩ := z_worked hF hw hp fm ha ha2 W
  obtain ⟨y, m2, y1, y2, y3, f2⟩ := q_fewest R hF n1 w1
  simp only [e1, o_b2_some, y1, o_b_some]
  obtain ⟨g1, g2, g3, g4⟩ := wy_fin (zz := fun _ => False) hw h fm f1 r8 R (fun b j hb => f2 b j (fun q => hb (by rcases q with q | q | q <;> simp [q]))) (fun _ _ q => q)
  exact ⟨_, _, rfl, _, _, y2, ⟨y3, rfl⟩, g1, g2, g3, g4⟩
theorem hasBack_b {a0 : Nat} {x1 x2 y : Int32} {m : aM} (e : f_Way_hasBack a0 x1 x2 m = some y) : isb y = true := by
  unfold f_Way_hasBack at e
  obtain ⟨y1, _, e⟩ := o_b_ex e
  obtain ⟨_, e⟩ := o_gd_ex e
  rw [o_let_eq] at e
  obtain ⟨q, e⟩ := o_gd_ex e
  cases e
  exact q
theorem z_isBackI (hF : 20000 ≤ F) (hw : 8692 ≤ w) (h : Iv m) (fm : ∀ b j, b < 8692 → mw b j = m b j) (ha : m 29 7 = nI a) (ha2 : a < 1000) (W : Wy mw a w) (x1 x2 : Int32) : ∃ r m1, u_isBack F w x1 x2 m mw = some (r, m1) ∧ ∃ v m2, f_Mod_isBack F x1 x2 m1 = some (v, m2) ∧ Co [IAE] r v (m2 242 0) ∧ WZ w a (fun _ => False) r m mw m2 := by
  obtain ⟨c, p, hp⟩ := h.2.2.2.2.1
  have hp0 : ∀ v, iPl (a_st m 242 0 v) c p := fun v => hp.fr (fun b j hb => by rw [a_st_no (by omega)])
  unfold u_isBack
  simp only [z_checkNode hp]
  by_cases k : nodP c p x1 x2
  case neg =>
    simp only [if_neg k, o_t_inr]
    refine ⟨_, _, rfl, ?_⟩
    unfold f_Mod_isBack b_Mod_isBack_20
    simp only [o_let_eq, m_isNode (hp0 0), o_b_some, if_neg k, if_true, z_bad1 (show (1 : Int32) ≠ 0 by decide), o_b2_some, show ¬ (1 : Int32) = 0 by decide, if_false]
    exact ⟨_, _, rfl, ⟨0, rfl, a_st_self⟩, WZ.out h⟩
  simp only [if_pos k, o_t_inl]
  obtain ⟨n, w', n1, w1, rfl, rfl⟩ := nodP_nw hp.2.1 k
  obtain ⟨m1, e1, f1, r8, d, R⟩ := z_worked hF hw hp fm ha ha2 W
  obtain ⟨y, m2, y1, y2, y3, f2⟩ := q_isBack R hF n1 w1
  simp only [e1, o_b2_some, y1, o_b_some, hasBack_b y1, o_gd_t]
  obtain ⟨g1, g2, g3, g4⟩ := wy_fin (zz := fun _ => False) hw h fm f1 r8 R (fun b j hb => f2 b j (fun q => hb (by rcases q with q | q | q <;> simp [q]))) (fun _ _ q => q)
  exact ⟨_, _, rfl, _, _, y2, ⟨y3, rfl⟩, g1, g2, g3, g4⟩
theorem z_lastI (hF : 20000 ≤ F) (hw : 8692 ≤ w) (h : Iv m) (fm : ∀ b j, b < 8692 → mw b j = m b j) (ha : m 29 7 = nI a) (ha2 : a < 1000) (W : Wy mw a w) (x1 x2 : Int32) : ∃ r m1, u_last F w x1 x2 m mw = some (r, m1) ∧ ∃ v t, Co [IAE] r v t ∧ ∀ z, 8692 ≤ z → ((∃ y, r = .inl y) → w + 6 < z) → ∃ z' m2, f_Mod_last F z x1 x2 m1 = some ((v, z'), m2) ∧ (z' = z ∨ z' = z + 1) ∧ m2 242 0 = t ∧ WZ w a (fun b => b = z) r m mw m2 := by
  obtain ⟨c, p, hp⟩ := h.2.2.2.2.1
  have hp0 : ∀ v, iPl (a_st m 242 0 v) c p := fun v => hp.fr (fun b j hb => by rw [a_st_no (by omega)])
  unfold u_last
  simp only [z_checkNode hp]
  by_cases k : nodP c p x1 x2
  case neg =>
    simp only [if_neg k, o_t_inr]
    refine ⟨_, _, rfl, 0, nI 1, ⟨0, rfl, rfl⟩, fun z z1 z2 => ?_⟩
    unfold f_Mod_last b_Mod_last_20
    simp only [o_let_eq, m_isNode (hp0 0), o_b_some, if_neg k, if_true, z_bad1 (show (1 : Int32) ≠ 0 by decide), o_b2_some, show ¬ (1 : Int32) = 0 by decide, if_false]
    exact ⟨_, _, rfl, Or.inl rfl, a_st_self, WZ.out h⟩
  simp only [if_pos k, o_t_inl]
  obtain ⟨n, w', n1, w1, rfl, rfl⟩ := nodP_nw hp.2.1 k
  obtain ⟨m1, e1, f1, r8, d, R⟩ := z_worked hF hw hp fm ha ha2 W
  obtain ⟨y, z0, m0, y1, -⟩ := q_last R hF (Nat.le_refl 8692) n1 w1
  simp only [e1, o_b2_some, y1, o_b_some]
  refine ⟨_, _, rfl, y, 0, ⟨rfl, rfl⟩, fun z z1 z2 => ?_⟩
  obtain ⟨y', z', m2, y1', y2, y3, y4, f2⟩ := q_last R hF z1 n1 w1
  have ey : y' = y := Option.some.inj (y1'.symm.trans y1)
  subst ey
  obtain ⟨g1, g2, g3, g4⟩ := wy_fin (zz := fun b => b = z) hw h fm f1 r8 R (fun b j hb => f2 b j (fun q => hb (by rcases q with q | q | q | q <;> simp [q, z1]))) (fun b hb q => by have := z2 ⟨_, rfl⟩; omega)
  exact ⟨z', m2, y2, y3, y4, g1, g2, g3, g4⟩
end
theorem WZ.mono {w a : Nat} {zz zz' : Nat → Prop} {r : oX} {m mw m2 : aM} (h : WZ w a zz r m mw m2) (f : ∀ b, zz b → zz' b) : WZ w a zz' r m mw m2 := by
  cases r with
  | inl y => exact ⟨h.1, h.2.1, h.2.2.1, fun b j h1 h2 h3 => h.2.2.2 b j h1 h2 (fun q => h3 (f b q))⟩
  | inr E => exact h
theorem way_new (w : Nat) (m : aM) : ∃ v mw, f_Way_init w (a_zr m w) = some (v, mw) ∧ mw w 8 = nI 0 ∧ ∀ b j, ¬ (w ≤ b ∧ b ≤ w + 6) → mw b j = m b j := by
  unfold f_Way_init b_Way_init_61
  simp only [o_let_eq]
  refine ⟨_, _, rfl, ?_, fun b j hb => ?_⟩
  · rw [a_st_self]; rfl
  · rw [a_st_no (by omega), a_st_no (by omega)]
    unfold a_zr
    rw [if_neg (by omega), if_neg (by omega), if_neg (by omega), if_neg (by omega), if_neg (by omega), if_neg (by omega), if_neg (by omega)]
theorem lik_new (w : Nat) (m : aM) : ∃ v mw, f_Lik_init w (a_zr m w) = some (v, mw) ∧ ∀ b j, ¬ (w ≤ b ∧ b ≤ w + 2) → mw b j = m b j := by
  unfold f_Lik_init
  simp only [o_let_eq]
  refine ⟨_, _, rfl, fun b j hb => ?_⟩
  unfold a_zr
  rw [if_neg (by omega), if_neg (by omega), if_neg (by omega)]
