/-! THE REFERENCE'S READER: tests, levels -/
section
variable {T : Nat → Int32} {n : Nat} {al : Bool} {s : Int32} {a b : Nat → Int32} {ft : Int32} {F : Nat} {rcS rcT : aM → Option (Int32 × aM)}
theorem m_testG : MG T n (g_Mod_test F rcS rcT) true := fun E m p k q h4 hE h hp => by
  unfold g_Mod_test
  rw [if_neg h.ne]
  exact ⟨_, _, p, rfl, h, hp, Fr.rf, fun _ => rfl⟩
theorem m_143 {S : Nat → pO pV} {o ES E : Nat} {v : pV} {c x : Int32} (hS : MQx T n al s a b ft rcS S o ES false) (hE1 : ES + 5 ≤ E) {m : aM} {p : Nat} (h : MS T n s a b ft m p o) (hp : p + 1 ≤ n) (hx : c = 60 ∧ x = 12 ∨ c = 62 ∧ x = 13 ∨ c = 61 ∧ x = 14) :
    MO T n s a b ft (al = true → s ≠ 0) (fun (v : pV) x => x = v a b) o E true m (b_Mod_test_143 F rcS rcT (v a b) c m) (pB (S (p + 1)) fun p2 u => .inr (p2, pv2 (jn x) v u)) := by
  unfold b_Mod_test_143
  simp only [o_let_eq, h.2.1, nI_1]
  refine MO.tr at_fr (MO.bind (hS _ _ (h.at hp)) (fun q u y m1 e r h1 f _ => ?_) (fun y m1 p1 k q h1 h2 _ => ?_)) (Nat.le_refl _)
  · subst r
    have key : ∀ w, w = pv2 (jn x) v u a b → isb w = true → MO T n s a b ft (al = true → s ≠ 0) (fun (v : pV) x => x = v a b) o E true m1 (some (w, m1)) (.inr (q, pv2 (jn x) v u)) := fun w hw hi => MO.ret hw h1 Fr.rf (fun _ => hi)
    rcases hx with ⟨rfl, rfl⟩ | ⟨rfl, rfl⟩ | ⟨rfl, rfl⟩
    · rw [if_pos rfl]
      have e : pv2 (jn 12) v u a b = if u a b ≤ v a b then 0 else 1 := rfl
      split
      · rename_i z; exact key 0 (by rw [e, if_pos z]) rfl
      · rename_i z; exact key 1 (by rw [e, if_neg z]) rfl
    · rw [if_neg (by decide), if_pos rfl]
      have e : pv2 (jn 13) v u a b = if v a b ≤ u a b then 0 else 1 := rfl
      split
      · rename_i z; exact key 0 (by rw [e, if_pos z]) rfl
      · rename_i z; exact key 1 (by rw [e, if_neg z]) rfl
    · rw [if_neg (by decide), if_neg (by decide)]
      have e : pv2 (jn 14) v u a b = if v a b = u a b then 1 else 0 := rfl
      split
      · rename_i z; exact key 1 (by rw [e, if_pos z]) rfl
      · rename_i z; exact key 0 (by rw [e, if_neg z]) rfl
  · repeat' split
    all_goals exact ⟨_, _, p1, rfl, h1, by omega, Fr.rf, fun _ => rfl⟩
theorem m_143F (hS : MG T n rcS false) {m : aM} {p q E : Nat} {k x c : Int32} (h : MF T n m p k q) (hp : p ≤ E) (h4 : 400 ≤ E) (hE : E ≤ 3900) : MZ T n true m (b_Mod_test_143 F rcS rcT x c m) k q (E + 1) := by
  unfold b_Mod_test_143
  simp only [o_let_eq, h.2.1, nI_1]
  refine MZ.tr at_fr (E := E + 1) (MZ.bind (hS (E + 1) _ _ _ _ (by omega) (by omega) (h.at (p + 1)) (by omega)) (fun y m1 p1 h1 h2 _ => ?_)) (Nat.le_refl _)
  repeat' split
  all_goals exact ⟨_, _, p1, rfl, h1, h2, Fr.rf, fun _ => rfl⟩
theorem m_test {S C B : Nat → pO pV} {o ES E : Nat} (hS : MQx T n al s a b ft rcS S o ES false) (hC : o < 6 → MQx T n al s a b ft (g_Mod_ors F rcS rcT) C (o + 1) ES true) (hB : o < 6 → MQx T n al s a b ft rcT B (o + 1) ES true) (hSF : MG T n rcS false) (hCF : MG T n (g_Mod_ors F rcS rcT) true) (hBF : MG T n rcT true) (ho : o ≤ 6) (hE : 450 ≤ ES) (hE1 : ES + 10 ≤ E) (hE2 : E ≤ 3000) (hF : 5000 ≤ F) :
    MQx T n al s a b ft (g_Mod_test F rcS rcT) (pBt T S C B o) o E true := fun m p h => by
  obtain ⟨_, h1⟩ := m_blanksS h hF
  have g := h1.2.2.2.2.2.1
  have h4 := h.n4
  have hp := h.2.2.2.2.2.1
  have hkk : kp T (kp T p) = kp T p := kp_kp h.1.1
  obtain ⟨x, ew, w1, w2, w3, w4, _⟩ := m_word (F := F) h.1 h.2.1 (by omega) hF
  unfold g_Mod_test b_Mod_test_44 pBt
  simp only [h.2.2.2.1, if_true, ew, o_b2_some, show ∀ m, f_Mod_word 14 15 20 0 0 m = some (nI 10631) from fun _ => rfl, o_b_some, ww w4, a_st_self, m_byte h1.1 (show kp T p < 2 ^ 31 by omega)]
  refine MO.tr (m1 := a_st m 242 13 (nI (kp T p))) at_fr ?_ (Nat.le_refl _)
  by_cases k1 : tW T (kp T p) wNot = true
  · have hl := tW_lt h.1.1 wNot (kp T p) (by decide) g k1
    simp only [List.length_cons, List.length_nil] at hl
    simp only [if_pos k1]
    unfold pNt
    have op := m_opens (x := 3) h1 ho (by omega)
    by_cases o6 : o < 6
    · obtain ⟨e1, h2⟩ := op.1 o6
      rw [if_pos o6, show (3 : Int32) = nI 3 from rfl, e1, o_b2_some]
      refine MO.tr (op_fr.tr at_fr) (MO.bind (hB o6 _ _ h2) (fun q u y m1 e r h3 f i => ?_) (fun y m1 p1 k q h3 h5 _ => ?_)) (Nat.le_refl _)
      · subst r
        simp only [o_let_eq, h3.2.2.1, nI_pred]
        rcases isb_or (i rfl) with z | z
        · rw [if_pos z, show isb 1 = true from rfl, o_gd_t]
          exact MO.ret (by show (1 : Int32) = 1 - u a b; rw [z]; rfl) (h3.op o) op_fr (fun _ => rfl)
        · rw [if_neg (by rw [z]; decide), show isb 0 = true from rfl, o_gd_t]
          exact MO.ret (by show (0 : Int32) = 1 - u a b; rw [z]; rfl) (h3.op o) op_fr (fun _ => rfl)
      · simp only [o_let_eq]
        split
        · exact ⟨_, _, p1, rfl, h3.op _, by omega, op_fr, fun _ => rfl⟩
        · exact ⟨_, _, p1, rfl, h3.op _, by omega, op_fr, fun _ => rfl⟩
    · obtain ⟨m', e1, h2, h3⟩ := op.2 o6
      rw [if_neg o6, show (3 : Int32) = nI 3 from rfl, e1, o_b2_some]
      refine MO.fau (MZ.tr h3 (MZ.bind (hBF 403 _ _ _ _ (by omega) (by omega) h2 (by omega)) (fun y m1 p1 h3 h5 _ => ?_)) (Nat.le_refl _))
      simp only [o_let_eq]
      split
      · exact ⟨_, _, p1, rfl, h3.op _, by omega, op_fr, fun _ => rfl⟩
      · exact ⟨_, _, p1, rfl, h3.op _, by omega, op_fr, fun _ => rfl⟩
  simp only [if_neg k1]
  have cl : ∀ (y : Int32) (m1 : aM) (p1 : Nat) (k : Int32) (q E' : Nat), MF T n m1 p1 k q → p1 ≤ E' → 400 ≤ E' → E' + 1 ≤ E → (true = true → isb y = true) → MZ T n true m1 (o_b2 (f_Mod_sign F 93 m1) fun y13 m14 => o_let (a_st m14 242 14 (m14 242 14 - 1)) fun m15 => o_gd (isb y) <| some (y, m15)) k q E := fun y m1 p1 k q E' h3 h5 h6 h7 i => by
    refine MZ.bind (m_signF h3 hF h5 h6 (by omega)) (fun z m2 p2 h8 h9 _ => ?_)
    simp only [o_let_eq]
    rw [i rfl, o_gd_t]
    exact ⟨_, _, p2, rfl, h8.op _, by omega, op_fr, i⟩
  by_cases c91 : T (kp T p) = 91
  · simp only [if_pos c91]
    have hl := h.1.1.lt c91 (by decide)
    have op := m_opens (x := 1) h1 ho (by omega)
    unfold pPa pOp
    rw [hkk, if_pos c91]
    by_cases o6 : o < 6
    · obtain ⟨e1, h2⟩ := op.1 o6
      rw [if_pos o6, show (1 : Int32) = nI 1 from rfl, e1, o_b2_some]
      refine MO.tr (op_fr.tr at_fr) (MO.bind (hC o6 _ _ h2) (fun q u y m1 e r h3 f i => ?_) (fun y m1 p1 k q h3 h5 i => cl y m1 p1 k q ES h3 h5 (by omega) (by omega) i)) (Nat.le_refl _)
      refine MO.bind (m_sign h3 hF (by decide)) (fun q2 z y2 m2 e2 _ h5 f2 _ => ?_) (fun y2 m2 p2 k q h5 h6 _ => ?_)
      · simp only [o_let_eq, h5.2.2.1]
        rw [show nI (o + 1) - nI 1 = nI o from nI_pred o, i rfl, o_gd_t]
        exact MO.ret r (h5.op o) op_fr i
      · simp only [o_let_eq]
        rw [i rfl, o_gd_t]
        exact ⟨_, _, p2, rfl, h5.op _, by omega, op_fr, i⟩
    · obtain ⟨m', e1, h2, h3⟩ := op.2 o6
      rw [if_neg o6, show (1 : Int32) = nI 1 from rfl, e1, o_b2_some]
      exact MO.fau (MZ.tr h3 (MZ.bind (hCF 401 _ _ _ _ (by omega) (by omega) h2 (by omega)) (fun y m1 p1 h3 h5 i => cl y m1 p1 _ _ 401 h3 h5 (by omega) (by omega) i)) (Nat.le_refl _))
  simp only [if_neg c91]
  unfold pCm
  refine MO.bind (hS _ _ h1) (fun q v y m1 e r h2 f _ => ?_) (fun y m1 p1 k q h2 h3 _ => ?_)
  · obtain ⟨e2, h3⟩ := m_blanksS h2 hF
    have g3 := h3.2.2.2.2.2.1
    subst r
    simp only [e2, o_b2_some, a_st_self, m_byte h3.1 (show kp T q < 2 ^ 31 by omega), o_b_some]
    refine MO.tr (m1 := a_st m1 242 13 (nI (kp T q))) at_fr ?_ (Nat.le_refl _)
    by_cases c1 : T (kp T q) = 60
    · simp only [if_pos c1]
      have hl := h.1.1.lt c1 (by decide)
      rw [c1]
      exact m_143 hS (by omega) h3 (by omega) (Or.inl ⟨rfl, rfl⟩)
    simp only [if_neg c1]
    by_cases c2 : T (kp T q) = 62
    · simp only [if_pos c2]
      have hl := h.1.1.lt c2 (by decide)
      rw [c2]
      exact m_143 hS (by omega) h3 (by omega) (Or.inr (Or.inl ⟨rfl, rfl⟩))
    simp only [if_neg c2]
    by_cases c3 : T (kp T q) = 61
    · simp only [if_pos c3]
      have hl := h.1.1.lt c3 (by decide)
      rw [c3]
      exact m_143 hS (by omega) h3 (by omega) (Or.inr (Or.inr ⟨rfl, rfl⟩))
    simp only [if_neg c3, m_wrong h3.2.2.2.1, o_b2_some]
    exact MO.fau (MZ.tr wr_fr (m_143F hSF (E := 400) (h3.wr (by decide) _) (by omega) (by omega) (by omega)) (by omega))
  · obtain ⟨e2, h5, h6⟩ := m_blanksF h2 hF h3 (by omega) (by omega)
    simp only [e2, o_b2_some, a_st_self, m_byte h5.1 (show kp T p1 < 2 ^ 31 by omega), o_b_some, m_wrongF h5]
    have z : ∀ c, MZ T n true (a_st m1 242 13 (nI (kp T p1))) (b_Mod_test_143 F rcS rcT y c (a_st m1 242 13 (nI (kp T p1)))) k q E := fun c => (m_143F hSF h5 h6 (by omega) (by omega)).tr Fr.rf (by omega)
    refine MZ.tr (m1 := a_st m1 242 13 (nI (kp T p1))) at_fr ?_ (Nat.le_refl _)
    repeat' split
    all_goals exact z _
end
section
variable {T : Nat → Int32} {n : Nat} {al : Bool} {s : Int32} {a b : Nat → Int32} {ft : Int32} {F : Nat}
theorem MQx.mo {f : aM → Option (Int32 × aM)} {X : Nat → pO pV} {o E E' : Nat} {bl : Bool} (h : MQx T n al s a b ft f X o E bl) (hE : E ≤ E') : MQx T n al s a b ft f X o E' bl := fun m p hm => (h m p hm).tr Fr.rf hE
theorem m_levG (hF : 5000 ≤ F) : ∀ N, MG T n (rcs_mod F (N + 1)).1 false ∧ MG T n (rcs_mod F (N + 1)).2 true := fun N => ⟨m_totalG (m_productG m_unitG hF) hF, m_testG⟩
theorem m_lev (hs1 : s ≠ 0 → al = true) (hF : 5000 ≤ F) : ∀ N r, r ≤ 6 → (2 * r + 2 ≤ N → MQx T n al s a b ft (rcs_mod F N).1 (pLv T al r).1 (6 - r) (500 + 50 * r) false) ∧ (2 * r + 3 ≤ N → MQx T n al s a b ft (rcs_mod F N).2 (pLv T al r).2 (6 - r) (520 + 50 * r) true)
  | 0, r, _ => ⟨fun h => by omega, fun h => by omega⟩
  | 1, r, _ => ⟨fun h => by omega, fun h => by omega⟩
  | N + 2, r, hr => by
    have ih := m_lev hs1 hF (N + 1)
    obtain ⟨gS, gB⟩ := m_levG (T := T) (n := n) hF N
    have gC : MG T n (g_Mod_ors F (rcs_mod F (N + 1)).1 (rcs_mod F (N + 1)).2) true := m_orsG (m_andsG gB hF) hF
    have lo : ∀ (X : (Nat → pO pV) × (Nat → pO pV)), (0 < r → X = pLv T al (r - 1)) → (2 * r + 2 ≤ N + 2 → (6 - r < 6 → MQx T n al s a b ft (rcs_mod F (N + 1)).1 X.1 (6 - r + 1) (460 + 50 * r) false) ∧ (6 - r < 6 → MQx T n al s a b ft (rcs_mod F (N + 1)).2 X.2 (6 - r + 1) (470 + 50 * r) true) ∧ (6 - r < 6 → MQx T n al s a b ft (g_Mod_ors F (rcs_mod F (N + 1)).1 (rcs_mod F (N + 1)).2) (pC T X.2) (6 - r + 1) (470 + 50 * r) true)) := fun X hX hN => by
      have A : 6 - r < 6 → MQx T n al s a b ft (rcs_mod F (N + 1)).1 X.1 (6 - r + 1) (460 + 50 * r) false := fun h6 => by
        rw [hX (by omega), show 6 - r + 1 = 6 - (r - 1) by omega]
        exact ((ih (r - 1) (by omega)).1 (by omega)).mo (by omega)
      have B : 6 - r < 6 → MQx T n al s a b ft (rcs_mod F (N + 1)).2 X.2 (6 - r + 1) (470 + 50 * r) true := fun h6 => by
        rw [hX (by omega), show 6 - r + 1 = 6 - (r - 1) by omega]
        exact ((ih (r - 1) (by omega)).2 (by omega)).mo (by omega)
      refine ⟨A, B, fun h6 => ?_⟩
      have hP : PL X.2 := by rw [hX (by omega)]; exact (pLv_lt _).2
      exact m_ors (m_ands (B h6) hP (by omega) (by omega) hF) (pWq_lt hP) (by omega) (by omega) hF
    have e : ∃ X : (Nat → pO pV) × (Nat → pO pV), (0 < r → X = pLv T al (r - 1)) ∧ pLv T al r = pSt T al (6 - r) X ∧ PL X.1 ∧ PL X.2 := by
      match r, hr with
      | 0, _ => exact ⟨_, fun h => absurd h (by decide), rfl, fun p q v e => by simp at e, fun p q v e => by simp at e⟩
      | r + 1, hr => exact ⟨_, fun _ => rfl, by rw [show 6 - (r + 1) = 5 - r by omega]; rfl, (pLv_lt _).1, (pLv_lt _).2⟩
    obtain ⟨X, hX, e, p1, p2⟩ := e
    rw [e]
    refine ⟨fun h => ?_, fun h => ?_⟩
    · obtain ⟨A, B, C⟩ := lo X hX (by omega)
      have hU := m_unit (F := F) (S := X.1) (C := pC T X.2) (o := 6 - r) (ES := 460 + 50 * r) (E := 500 + 50 * r) hs1 A (fun h6 => (C h6).mo (by omega)) gS gC (by omega) (by omega) (by omega) (by omega) hF
      have pu : PL (pU T al X.1 (pC T X.2) (6 - r)) := pU_lt p1 (pC_lt p2)
      exact m_total (m_product hU pu (by omega) (by omega) hF) (pLq_lt pu) (by omega) (by omega) hF
    · obtain ⟨A, B, C⟩ := lo X hX (by omega)
      have hs : MQx T n al s a b ft (rcs_mod F (N + 1)).1 (pLv T al r).1 (6 - r) (500 + 50 * r) false := (ih r hr).1 (by omega)
      rw [e] at hs
      exact m_test (ES := 500 + 50 * r) hs (fun h6 => (C h6).mo (by omega)) (fun h6 => (B h6).mo (by omega)) gS gC gB (by omega) (by omega) (by omega) (by omega) hF
/-- the reference reads expressions and tests -/
theorem m_total0 (hs1 : s ≠ 0 → al = true) (hF : 5000 ≤ F) : MQx T n al s a b ft (f_Mod_total F) (pLv T al 6).1 0 800 false := (m_lev hs1 hF 33 6 (by omega)).1 (by omega)
theorem m_ors0 (hs1 : s ≠ 0 → al = true) (hF : 5000 ≤ F) : MQx T n al s a b ft (f_Mod_ors F) (pC T (pLv T al 6).2) 0 820 true := m_ors (m_ands ((m_lev hs1 hF 32 6 (by omega)).2 (by omega)) (pLv_lt 6).2 (by omega) (by omega) hF) (pWq_lt (pLv_lt 6).2) (by omega) (by omega) hF
end
