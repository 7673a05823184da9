/-! CALLS: go, back, delete, whole -/
theorem z_goI (F : Nat) (m : aM) (hF : 5000 ≤ F) (h : Iv m) : ZN (f_Led_go F) (f_Mod_go F) m := by
  obtain ⟨a1, a2, ⟨st, hL⟩, a4, a5, a6, a7⟩ := id h
  obtain ⟨t, t1, t2, t3, hr⟩ := a7.rw
  obtain ⟨s, s1, s2, s3⟩ := a7.sg
  have n10 := a7.n10
  obtain ⟨c0, c01, c02, c03⟩ := cb_40 (kdB m 0)
  obtain ⟨c3, c31, c32, c33⟩ := cb_40 (kdB m 3)
  obtain ⟨cr, cr1, cr2, cr3⟩ := cb_40 (brB m)
  obtain ⟨co, co1, co2, co3⟩ := cb_40 (odB m st)
  have y0 : f_Tab_manyOf F 0 m = some (nI c0) := by rw [← c02]; exact c_manyOf (κ := 0) (by omega)
  have y3 : f_Tab_manyOf F 3 m = some (nI c3) := by rw [← c32]; exact c_manyOf (κ := 3) (by omega)
  have yr : f_Tab_manyBroken F m = some (nI cr) := by rw [← cr2]; exact c_manyBroken (by omega)
  obtain ⟨mo, yo, fo⟩ := c_manyOdd (F := F) hL hF
  rw [co2] at yo
  have mn : ∀ mr : aM, (∀ b j, 8473 ≤ b → b ≤ 8641 → mr b j = m b j) → f_Mod_many F 0 mr = some (nI c0) ∧ f_Mod_many F 3 mr = some (nI c3) := fun mr he => ⟨by rw [← c02]; exact m_many2 (κ := 0) he hr (by omega) (by omega), by rw [← c32]; exact m_many2 (κ := 3) he hr (by omega) (by omega)⟩
  have th5 : ∀ mc : aM, a_st mc 242 0 0 242 45 = mc 242 45 := fun mc => a_st_no (by decide)
  have fo0 : Fr sc0 m mo := fo.mono (fun b j hb => by unfold sc0; omega)
  obtain ⟨z01, z02, z03⟩ := nI_z c01
  obtain ⟨z31, z32, z33⟩ := nI_z c31
  obtain ⟨zr1, zr2, zr3⟩ := nI_z cr1
  obtain ⟨zo1, zo2, zo3⟩ := nI_z co1
  have neq : ∀ a b : Nat, a < 10 → b < 10 → a ≠ b → ¬ nI a = nI b := fun a b ha hb hn z => hn (nI_inj (by omega) (by omega) z)
  unfold ZN f_Led_go f_Tab_goOn
  rcases Nat.lt_or_ge s 5 with s5 | s5
  case inr =>
    obtain rfl : s = 5 := by omega
    rw [s2, if_neg (by decide), o_b2_some]
    refine ⟨_, _, rfl, a_st m 242 0 0, ?_, (h.f0 th_fr).1, (h.f0 th_fr).2⟩
    unfold f_Mod_go
    rw [o_let_eq, th5, s3, if_pos (show nI 5 = 5 from rfl)]
  rw [s2, if_pos (show nI s < 5 from nI_lt (b := 5) s5 (by decide))]
  -- it can't: both leave all as it was
  have no : ∀ m1 : aM, Fr sc0 m m1 → f_Tab_mayGoOn F m = some (0, m1) → (∃ m2, f_Mod_go F m1 = some (0, m2) ∧ Fr sc0 m m2) → ∃ r m1, (o_b2 (o_b2 (f_Tab_mayGoOn F m) fun y1 m2 => if y1 = 0 then some (0, m2) else o_let (a_st m2 37 6 (m2 37 6 + 1)) fun m3 => if m3 37 6 = 5 then o_b2 (f_Tab_dropOldForm F m3) fun y4 m5 => some (1, m5) else some (1, m3)) fun y1 m2 => some (y1, m2)) = some (r, m1) ∧ ∃ m2, f_Mod_go F m1 = some (r, m2) ∧ Iv m2 ∧ AgP m m2 := fun m1 f1 e1 ⟨m2, e2, f2⟩ => by
    rw [e1, o_b2_some, if_pos rfl, o_b2_some]
    exact ⟨_, _, rfl, m2, e2, (h.f0 f2).1, (h.f0 f2).2⟩
  -- it can
  have yes : ∀ m1 : aM, Fr sc0 m m1 → f_Tab_mayGoOn F m = some (1, m1) → (s = 4 → ∀ k, k < 40 → ¬ m (42 + 5 * k) 3 = nI 0 ∧ ¬ m (42 + 5 * k) 3 = nI 3) → (∀ mc : aM, (∀ b j, 242 ≤ b → mc b j = m1 b j) → (∀ b j, b < 37 → mc b j = m1 b j) → (∀ j, j ≠ 6 → mc 37 j = m1 37 j) → (s ≠ 4 → ∀ b j, ¬ (b = 37 ∧ j = 6) → mc b j = m1 b j) → ∃ mr, f_Mod_go F mc = b_Mod_go_106 F mr ∧ Fr sc0 mc mr) → ∃ r m1, (o_b2 (o_b2 (f_Tab_mayGoOn F m) fun y1 m2 => if y1 = 0 then some (0, m2) else o_let (a_st m2 37 6 (m2 37 6 + 1)) fun m3 => if m3 37 6 = 5 then o_b2 (f_Tab_dropOldForm F m3) fun y4 m5 => some (1, m5) else some (1, m3)) fun y1 m2 => some (y1, m2)) = some (r, m1) ∧ ∃ m2, f_Mod_go F m1 = some (r, m2) ∧ Iv m2 ∧ AgP m m2 := fun m1 f1 e1 hno hc => by
    obtain ⟨mc, ec, k1, k2, k3, k4, k5⟩ := go_t h f1 hF s2 s3 s5 hno
    obtain ⟨mr, er, fr⟩ := hc mc k1 k2 k3 k4
    obtain ⟨m2, e2, i1, i2⟩ := k5 mr fr
    refine ⟨1, mc, ?_, m2, by rw [er]; exact e2, i1, i2⟩
    rw [e1, o_b2_some, if_neg (by decide), ec, o_b2_some]
  rcases (show s = 0 ∨ s = 1 ∨ s = 2 ∨ s = 3 ∨ s = 4 by omega) with rfl | rfl | rfl | rfl | rfl
  · refine yes m Fr.rf ?_ (fun z => by omega) (fun mc k1 k2 k3 k4 => ⟨a_st mc 242 0 0, ?_, th_fr⟩)
    · unfold f_Tab_mayGoOn b_Tab_mayGoOn_18 b_Tab_mayGoOn_36
      rw [s2, if_pos (by decide), if_pos (by decide), if_neg (by decide), if_neg (by decide)]
    · unfold f_Mod_go b_Mod_go_33 b_Mod_go_73
      rw [o_let_eq, th5, k1 242 45 (by omega), s3, if_neg (by decide), if_neg (by decide), if_neg (by decide), if_neg (by decide)]
  · refine yes m Fr.rf ?_ (fun z => by omega) (fun mc k1 k2 k3 k4 => ⟨a_st mc 242 0 0, ?_, th_fr⟩)
    · unfold f_Tab_mayGoOn b_Tab_mayGoOn_18 b_Tab_mayGoOn_36
      rw [s2, if_pos (by decide), if_pos (by decide), if_neg (by decide), if_neg (by decide)]
    · unfold f_Mod_go b_Mod_go_33 b_Mod_go_73
      rw [o_let_eq, th5, k1 242 45 (by omega), s3, if_neg (by decide), if_neg (by decide), if_neg (by decide), if_neg (by decide)]
  · by_cases z : c0 = 0
    · refine yes m Fr.rf ?_ (fun z => by omega) (fun mc k1 k2 k3 k4 => ⟨a_st mc 242 0 0, ?_, th_fr⟩)
      · unfold f_Tab_mayGoOn b_Tab_mayGoOn_18 b_Tab_mayGoOn_36
        rw [s2, if_neg (by decide), y0, o_b_some, if_pos (z01.mpr z), if_pos (by decide), if_neg (by decide), if_neg (by decide)]
      · unfold f_Mod_go b_Mod_go_33 b_Mod_go_73
        rw [o_let_eq, th5, k1 242 45 (by omega), s3, if_neg (by decide), if_pos (by decide), (mn (a_st mc 242 0 0) (fun b j b1 b2 => by rw [a_st_ne (by omega), k1 b j (by omega)])).1, o_b_some, if_pos (z01.mpr z), if_neg (by decide), if_neg (by decide)]
    · refine no m Fr.rf ?_ ⟨a_st m 242 0 0, ?_, th_fr⟩
      · unfold f_Tab_mayGoOn
        rw [s2, if_neg (by decide), y0, o_b_some, if_neg (fun q => z (z01.mp q))]
      · unfold f_Mod_go
        rw [o_let_eq, th5, s3, if_neg (by decide), if_pos (by decide), (mn (a_st m 242 0 0) (fun b j b1 b2 => by rw [a_st_ne (by omega)])).1, o_b_some, if_neg (fun q => z (z01.mp q))]
  · have he : ∀ b j, 8473 ≤ b → b ≤ 8641 → a_st m 242 0 0 b j = m b j := fun b j b1 b2 => by rw [a_st_ne (by omega)]
    have rB : ∀ mr : aM, rS m mr → f_Mod_brokenOnes F mr = some (nI cr) := fun mr q => by rw [← cr2, ← brB_rS q]; exact m_broken (q.rw hr) (by omega)
    by_cases z0 : c0 = 0
    case neg =>
      refine no m Fr.rf ?_ ⟨a_st m 242 0 0, ?_, th_fr⟩
      · unfold f_Tab_mayGoOn
        rw [s2, if_neg (by decide), y0, o_b_some, if_neg (fun q => z0 (z01.mp q))]
      · unfold f_Mod_go b_Mod_go_33
        rw [o_let_eq, th5, s3, if_neg (by decide), if_neg (by decide), if_pos (by decide), (mn _ he).1, o_b_some, if_pos (z02.mpr z0)]
    by_cases z3 : c3 = 0
    case neg =>
      refine no m Fr.rf ?_ ⟨a_st m 242 0 0, ?_, th_fr⟩
      · unfold f_Tab_mayGoOn b_Tab_mayGoOn_18
        rw [s2, if_neg (by decide), y0, o_b_some, if_pos (z01.mpr z0), if_neg (by decide), y3, o_b_some, if_neg (fun q => z3 (z31.mp q))]
      · unfold f_Mod_go b_Mod_go_33
        rw [o_let_eq, th5, s3, if_neg (by decide), if_neg (by decide), if_pos (by decide), (mn _ he).1, o_b_some, if_neg (fun q => z02.mp q z0), (mn _ he).2, o_b_some, if_pos (z32.mpr z3)]
    by_cases zr : cr = 0
    case neg =>
      refine no m Fr.rf ?_ ⟨a_st m 242 0 0, ?_, th_fr⟩
      · unfold f_Tab_mayGoOn b_Tab_mayGoOn_18 b_Tab_mayGoOn_36
        rw [s2, if_neg (by decide), y0, o_b_some, if_pos (z01.mpr z0), if_neg (by decide), y3, o_b_some, if_pos (z31.mpr z3), if_pos (by decide), yr, o_b_some, if_neg (fun q => zr (zr3.mp q))]
      · unfold f_Mod_go b_Mod_go_33
        rw [o_let_eq, th5, s3, if_neg (by decide), if_neg (by decide), if_pos (by decide), (mn _ he).1, o_b_some, if_neg (fun q => z02.mp q z0), (mn _ he).2, o_b_some, if_neg (fun q => z32.mp q z3), rB _ th_rS, o_b_some, if_pos (zr2.mpr zr)]
    have mgo : ∀ y, (y = 1 ↔ co = 0) → (y = 0 ∨ y = 1) → f_Tab_mayGoOn F m = some (y, mo) := fun y hy hy2 => by
      unfold f_Tab_mayGoOn b_Tab_mayGoOn_18 b_Tab_mayGoOn_36
      rw [s2, if_neg (by decide), y0, o_b_some, if_pos (z01.mpr z0), if_neg (by decide), y3, o_b_some, if_pos (z31.mpr z3), if_pos (by decide), yr, o_b_some, if_pos (zr3.mpr zr), yo, o_b2_some]
      rcases hy2 with rfl | rfl
      · rw [if_neg (fun q => absurd (hy.mpr (zo3.mp q)) (by decide))]
      · rw [if_pos (zo3.mpr (hy.mp rfl))]
    have mref : ∀ mc : aM, (∀ b j, ¬ (b = 37 ∧ j = 6) → mc b j = mo b j) → ∃ m5, Fr sc0 mc m5 ∧ f_Mod_go F mc = if nI co ≤ 0 then b_Mod_go_73 F m5 else some (0, m5) := fun mc hm => by
      have rs : rS m (a_st mc 242 0 0) := fun b j hb => by rw [a_st_ne (by omega), hm b j (by omega), fo b j (by omega)]
      have hLm : ML (a_st mc 242 0 0) st := hL.2.fr (fun b j hb => by unfold fL at hb; rw [a_st_no (by omega), hm b j (by omega), fo b j (by omega)])
      obtain ⟨m5, e5, f5⟩ := m_odd (F := F) (st := st) rs hr hLm hF
      rw [co2] at e5
      have he' : ∀ b j, 8473 ≤ b → b ≤ 8641 → a_st mc 242 0 0 b j = m b j := fun b j b1 b2 => rs b j (Or.inr ⟨b1, b2⟩)
      refine ⟨m5, th_fr.tr (f5.mono (fun b j hb => by unfold fSo fV at hb; unfold sc0; omega)), ?_⟩
      unfold f_Mod_go b_Mod_go_33
      rw [o_let_eq, th5, hm 242 45 (by omega), fo 242 45 (by omega), s3, if_neg (by decide), if_neg (by decide), if_pos (by decide), (mn _ he').1, o_b_some, if_neg (fun q => z02.mp q z0), (mn _ he').2, o_b_some, if_neg (fun q => z32.mp q z3), rB _ rs, o_b_some, if_neg (fun q => zr2.mp q zr), e5, o_b2_some]
    by_cases zo : co = 0
    · refine yes mo fo0 (mgo 1 ⟨fun _ => zo, fun _ => rfl⟩ (Or.inr rfl)) (fun z => by omega) (fun mc k1 k2 k3 k4 => ?_)
      obtain ⟨m5, f5, e5⟩ := mref mc (k4 (by decide))
      refine ⟨m5, ?_, f5⟩
      rw [e5, if_pos (zo1.mpr zo)]
      unfold b_Mod_go_73
      rw [f5 242 45 (by simp [sc0]), k1 242 45 (by omega), fo 242 45 (by omega), s3, if_neg (by decide)]
    · obtain ⟨m5, f5, e5⟩ := mref mo (fun _ _ _ => rfl)
      exact no mo fo0 (mgo 0 ⟨fun q => absurd q (by decide), fun q => absurd q zo⟩ (Or.inl rfl)) ⟨m5, by rw [e5, if_neg (fun q => zo (zo1.mp q))], fo0.tr f5⟩
  · have he : ∀ b j, 8473 ≤ b → b ≤ 8641 → a_st m 242 0 0 b j = m b j := fun b j b1 b2 => by rw [a_st_ne (by omega)]
    by_cases z0 : c0 = 0
    case neg =>
      refine no m Fr.rf ?_ ⟨a_st m 242 0 0, ?_, th_fr⟩
      · unfold f_Tab_mayGoOn
        rw [s2, if_neg (by decide), y0, o_b_some, if_neg (fun q => z0 (z01.mp q))]
      · unfold f_Mod_go b_Mod_go_33 b_Mod_go_73
        rw [o_let_eq, th5, s3, if_neg (by decide), if_neg (by decide), if_neg (by decide), if_pos (by decide), (mn _ he).1, o_b_some, if_pos (z02.mpr z0)]
    by_cases z3 : c3 = 0
    case neg =>
      refine no m Fr.rf ?_ ⟨a_st m 242 0 0, ?_, th_fr⟩
      · unfold f_Tab_mayGoOn b_Tab_mayGoOn_18
        rw [s2, if_neg (by decide), y0, o_b_some, if_pos (z01.mpr z0), if_neg (by decide), y3, o_b_some, if_neg (fun q => z3 (z31.mp q))]
      · unfold f_Mod_go b_Mod_go_33 b_Mod_go_73
        rw [o_let_eq, th5, s3, if_neg (by decide), if_neg (by decide), if_neg (by decide), if_pos (by decide), (mn _ he).1, o_b_some, if_neg (fun q => z02.mp q z0), (mn _ he).2, o_b_some, if_pos (z32.mpr z3)]
    have qb : ∀ mr : aM, (∀ b j, b < 37 → mr b j = m b j) → (∀ j, j ≠ 6 → mr 37 j = m 37 j) → (∀ b j, 242 ≤ b → ¬ (b = 242 ∧ j = 0) → mr b j = m b j) → ∃ y z, f_Ask_isOldAsked F (m 37 7 - m 37 10) m = some y ∧ f_Mod_isQuiet F mr = some z ∧ (y = 0 ∧ z = 1 ∨ y = 1 ∧ z = 0) := fun mr q1 q2 q3 => quiet_both a6 (a6.fr (fun b j hb => by
      rcases hb with ⟨rfl, rfl⟩ | rfl | hb
      · exact q2 7 (by decide)
      · exact q1 36 j (by omega)
      · exact q3 b j (by omega) (by omega))) (by omega) (fun j => q1 36 j (by omega)) (by rw [q3 242 46 (by omega) (by omega), q3 242 48 (by omega) (by omega), t3, t2, n10.1])
    obtain ⟨y, z, ey, _, _⟩ := qb (a_st m 242 0 0) (fun b j hb => by rw [a_st_ne (by omega)]) (fun j _ => by rw [a_st_ne (by decide)]) (fun b j hb hn => a_st_no hn)
    have cls : f_Tab_mayGoOn F m = some (if y = 0 then 1 else 0, m) := by
      unfold f_Tab_mayGoOn b_Tab_mayGoOn_18 b_Tab_mayGoOn_36
      rw [s2, if_neg (by decide), y0, o_b_some, if_pos (z01.mpr z0), if_neg (by decide), y3, o_b_some, if_pos (z31.mpr z3), if_neg (by decide), if_pos (by decide), ey, o_b_some]
      by_cases w : y = 0
      · rw [if_pos w, if_pos w]
      · rw [if_neg w, if_neg w]
    have ref : ∀ mc : aM, (∀ b j, 242 ≤ b → mc b j = m b j) → (∀ b j, b < 37 → mc b j = m b j) → (∀ j, j ≠ 6 → mc 37 j = m 37 j) → f_Mod_go F mc = if y = 0 then b_Mod_go_106 F (a_st mc 242 0 0) else some (0, a_st mc 242 0 0) := fun mc k1 k2 k3 => by
      obtain ⟨y', z', ey', ez', yz⟩ := qb (a_st mc 242 0 0) (fun b j hb => by rw [a_st_ne (by omega), k2 b j hb]) (fun j hj => by rw [a_st_ne (by decide), k3 j hj]) (fun b j hb hn => by rw [a_st_no hn, k1 b j hb])
      have : y' = y := by rw [ey] at ey'; exact (Option.some.inj ey').symm
      subst this
      have he' : ∀ b j, 8473 ≤ b → b ≤ 8641 → a_st mc 242 0 0 b j = m b j := fun b j b1 b2 => by rw [a_st_ne (by omega), k1 b j (by omega)]
      unfold f_Mod_go b_Mod_go_33 b_Mod_go_73
      rw [o_let_eq, th5, k1 242 45 (by omega), s3, if_neg (by decide), if_neg (by decide), if_neg (by decide), if_pos (by decide), (mn _ he').1, o_b_some, if_neg (fun q => z02.mp q z0), (mn _ he').2, o_b_some, if_neg (fun q => z32.mp q z3), ez', o_b_some]
      rcases yz with ⟨rfl, rfl⟩ | ⟨rfl, rfl⟩
      · rw [if_neg (by decide), if_pos rfl]
      · rw [if_pos rfl, if_neg (by decide)]
    by_cases w : y = 0
    · rw [if_pos w] at cls
      refine yes m Fr.rf cls (fun _ k hk => ⟨fun q => c03 z0 k hk (by unfold kdB; rw [q]; simp), fun q => c33 z3 k hk (by unfold kdB; rw [q]; simp)⟩) (fun mc k1 k2 k3 k4 => ⟨a_st mc 242 0 0, ?_, th_fr⟩)
      rw [ref mc k1 k2 k3, if_pos w]
    · rw [if_neg w] at cls
      exact no m Fr.rf cls ⟨a_st m 242 0 0, by rw [ref m (fun _ _ _ => rfl) (fun _ _ _ => rfl) (fun _ _ => rfl), if_neg w], th_fr⟩
