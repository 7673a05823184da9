/-! THE REFERENCE'S READER: expressions -/
def MQx (T : Nat → Int32) (n : Nat) (al : Bool) (s : Int32) (a b : Nat → Int32) (ft : Int32) (f : aM → Option (Int32 × aM)) (X : Nat → pO pV) (o E : Nat) (bl : Bool) : Prop :=
  ∀ m p, MS T n s a b ft m p o → MO T n s a b ft (al = true → s ≠ 0) (fun v x => x = v a b) o E bl m (f m) (X p)
def MG (T : Nat → Int32) (n : Nat) (f : aM → Option (Int32 × aM)) (bl : Bool) : Prop := ∀ E m p k q, 400 ≤ E → E ≤ 4000 → MF T n m p k q → p ≤ E → MZ T n bl m (f m) k q E
theorem nob {x : Int32} : (false = true → isb x = true) := fun h => by simp at h
section
variable {T : Nat → Int32} {n : Nat} {al : Bool} {s : Int32} {a b : Nat → Int32} {ft : Int32} {F : Nat} {rcS rcT : aM → Option (Int32 × aM)}

theorem m_b324 {m : aM} {p o : Nat} {ok : Prop} {v : pV} {x : Int32} (h : MS T n s a b ft m p (o + 1)) (hx : x = v a b) (hF : 5000 ≤ F) : MO T n s a b ft ok (fun (v : pV) x => x = v a b) o 400 false m (b_Mod_unit_324 F rcS rcT x m) (pB (pSg T 41 p) fun p3 _ => .inr (p3, v)) := by
  unfold b_Mod_unit_324
  refine MO.bind (m_sign h hF (by decide)) (fun q z y m1 e _ h1 f _ => ?_) (fun y m1 p1 k q h1 h2 _ => ?_)
  · simp only [o_let_eq, h1.2.2.1, nI_pred]
    exact MO.ret hx (h1.op o) op_fr nob
  · simp only [o_let_eq]
    exact ⟨_, _, p1, rfl, h1.op _, h2, op_fr, nob⟩
theorem m_b324F {m : aM} {p q E : Nat} {k x : Int32} (h : MF T n m p k q) (hp : p ≤ E) (h4 : 400 ≤ E) (hE : E ≤ 4000) (hF : 5000 ≤ F) : MZ T n false m (b_Mod_unit_324 F rcS rcT x m) k q (E + 1) := by
  unfold b_Mod_unit_324
  refine (m_signF h hF hp h4 hE).bind (fun y m1 p1 h1 h2 _ => ?_)
  simp only [o_let_eq]
  exact ⟨_, _, p1, rfl, h1.op _, h2, op_fr, nob⟩
theorem m_b267F (hS : MG T n rcS false) {m : aM} {p q E : Nat} {k x3 x5 x6 x7 : Int32} (h : MF T n m p k q) (hp : p ≤ E) (h4 : 400 ≤ E) (hE : E ≤ 3900) (hF : 5000 ≤ F) : MZ T n false m (b_Mod_unit_267 F rcS rcT x3 x5 x6 x7 m) k q (E + 2) := by
  unfold b_Mod_unit_267
  refine (m_signF h hF hp h4 (by omega)).bind (fun y m1 p1 h1 h2 _ => ?_)
  refine (hS (E + 1) _ _ _ _ (by omega) (by omega) h1 h2).bind (fun y m2 p2 h3 h5 _ => ?_)
  have z : ∀ x, MZ T n false m2 (b_Mod_unit_324 F rcS rcT x m2) k q (E + 2) := fun x => m_b324F h3 h5 (by omega) (by omega) hF
  unfold b_Mod_unit_312 b_Mod_unit_322
  repeat' split
  all_goals exact z _
theorem m_b247F (hS : MG T n rcS false) {m : aM} {p q E : Nat} {k x3 x4 x5 x6 : Int32} (h : MF T n m p k q) (hp : p ≤ E) (h4 : 400 ≤ E) (hE : E ≤ 3900) (hF : 5000 ≤ F) : MZ T n false m (b_Mod_unit_247 F rcS rcT x3 x4 x5 x6 m) k q (E + 2) := by
  unfold b_Mod_unit_247
  refine (hS E _ _ _ _ (by omega) (by omega) h hp).bind (fun y m2 p2 h3 h5 _ => ?_)
  have z : MZ T n false m2 (b_Mod_unit_267 F rcS rcT x3 x5 x6 y m2) k q (E + 2) := m_b267F hS h3 h5 (by omega) (by omega) hF
  have z2 : MZ T n false m2 (b_Mod_unit_324 F rcS rcT y m2) k q (E + 2) := (m_b324F h3 h5 (by omega) (by omega) hF).tr Fr.rf (by omega)
  repeat' split
  all_goals first | exact z | exact z2
theorem m_b234F (hS : MG T n rcS false) {m : aM} {p q E : Nat} {k x3 x4 x5 x6 : Int32} (h : MF T n m p k q) (hp : p ≤ E) (h4 : 400 ≤ E) (hE : E ≤ 3800) (hF : 5000 ≤ F) : MZ T n false m (b_Mod_unit_234 F rcS rcT x3 x4 x5 x6 m) k q (E + 3) := by
  unfold b_Mod_unit_234
  split
  · exact (m_b247F hS h hp h4 (by omega) hF).tr Fr.rf (by omega)
  · exact (m_signF h hF hp h4 (by omega)).bind (fun y m1 p1 h1 h2 _ => m_b247F hS h1 h2 (by omega) (by omega) hF)
/-- least, most: behind the first value -/
theorem m_pair2 {S : Nat → pO pV} {o ES E : Nat} (hS : MQx T n al s a b ft rcS S (o + 1) ES false) (hSF : MG T n rcS false) {m : aM} {p : Nat} {v : pV} {x3 x6 x : Int32} (h : MS T n s a b ft m p (o + 1)) (hx : x3 = 1 ∧ x = 10 ∨ x3 = 0 ∧ x = 11) (hE : 400 ≤ ES) (hE1 : ES + 5 ≤ E) (hE2 : E ≤ 3000) (hF : 5000 ≤ F) :
    MO T n s a b ft (al = true → s ≠ 0) (fun (v : pV) x => x = v a b) o E false m (b_Mod_unit_267 F rcS rcT x3 0 x6 (v a b) m) (pB (pSg T 44 p) fun p3 _ => pB (S p3) fun p4 u => pB (pSg T 41 p4) fun p5 _ => .inr (p5, pv2 (jn x) v u)) := by
  unfold b_Mod_unit_267
  simp only [if_true]
  have zz : ∀ (y : Int32) (m2 : aM) (p2 : Nat) (k : Int32) (q E' : Nat), MF T n m2 p2 k q → p2 ≤ E' → 400 ≤ E' → E' + 1 ≤ E → MZ T n false m2 (if v a b ≤ y then b_Mod_unit_312 F rcS rcT (v a b) y 0 x3 m2 else b_Mod_unit_312 F rcS rcT (v a b) y 1 x3 m2) k q E := fun y m2 p2 k q E' h3 h5 h6 h7 => by
    have z : ∀ x, MZ T n false m2 (b_Mod_unit_324 F rcS rcT x m2) k q E := fun x => (m_b324F h3 h5 (by omega) (by omega) hF).tr Fr.rf (by omega)
    unfold b_Mod_unit_312 b_Mod_unit_322
    repeat' split
    all_goals exact z _
  refine MO.bind (m_sign h hF (by decide)) (fun q z y m1 e _ h1 f _ => ?_) (fun y m1 p1 k q h1 h2 _ => ?_)
  · refine MO.bind (hS m1 q h1) (fun q2 u y m2 e2 r2 h2 f2 _ => ?_) (fun y m2 p2 k q h3 h5 _ => zz y m2 p2 k q ES h3 h5 hE (by omega))
    have key : ∀ w, w = pv2 (jn x) v u a b → MO T n s a b ft (al = true → s ≠ 0) (fun (v : pV) x => x = v a b) o E false m2 (b_Mod_unit_324 F rcS rcT w m2) (pB (pSg T 41 q2) fun p5 _ => .inr (p5, pv2 (jn x) v u)) := fun w hw => (m_b324 h2 hw hF).tr Fr.rf (by omega)
    subst r2
    unfold b_Mod_unit_312 b_Mod_unit_322
    rcases hx with ⟨rfl, rfl⟩ | ⟨rfl, rfl⟩
    · by_cases c : v a b ≤ u a b
      · simp only [if_pos c, show ¬ (1 : Int32) = 0 by decide, if_false]
        refine key _ ?_
        show v a b = if u a b < v a b then u a b else v a b
        rw [if_neg (by rw [i_lt]; rw [i_le] at c; omega)]
      · simp only [if_neg c, if_true]
        refine key _ ?_
        show u a b = if u a b < v a b then u a b else v a b
        rw [if_pos (by rw [i_lt]; rw [i_le] at c; omega)]
    · by_cases c : v a b ≤ u a b
      · simp only [if_pos c, if_true]
        refine key _ ?_
        show u a b = if v a b < u a b then u a b else v a b
        by_cases d : v a b < u a b
        · rw [if_pos d]
        · rw [if_neg d, i_eq]
          rw [i_lt] at d
          rw [i_le] at c
          omega
      · simp only [if_neg c, show ¬ (0 : Int32) = 1 by decide, if_false]
        refine key _ ?_
        show v a b = if v a b < u a b then u a b else v a b
        rw [if_neg (by rw [i_lt]; rw [i_le] at c; omega)]
  · exact (hSF 400 _ _ _ _ (by omega) (by omega) h1 h2).bind (fun y m2 p2 h3 h5 _ => zz y m2 p2 k q 400 h3 h5 (by omega) (by omega))
/-- if: behind its first value -/
theorem m_if2 {S : Nat → pO pV} {o ES E : Nat} (hS : MQx T n al s a b ft rcS S (o + 1) ES false) (hSF : MG T n rcS false) {m : aM} {p : Nat} {v c : pV} {x3 x6 : Int32} (h : MS T n s a b ft m p (o + 1)) (hx : x6 = 0 ↔ c a b = 0) (hE : 400 ≤ ES) (hE1 : ES + 5 ≤ E) (hE2 : E ≤ 3000) (hF : 5000 ≤ F) :
    MO T n s a b ft (al = true → s ≠ 0) (fun (v : pV) x => x = v a b) o E false m (b_Mod_unit_267 F rcS rcT x3 1 x6 (v a b) m) (pB (pSg T 44 p) fun p3 _ => pB (S p3) fun p4 u => pB (pSg T 41 p4) fun p5 _ => .inr (p5, fun a b => if c a b = 0 then u a b else v a b)) := by
  unfold b_Mod_unit_267 b_Mod_unit_322
  simp only [show ¬ (1 : Int32) = 0 by decide, if_false]
  have zz : ∀ (y : Int32) (m2 : aM) (p2 : Nat) (k : Int32) (q E' : Nat), MF T n m2 p2 k q → p2 ≤ E' → 400 ≤ E' → E' + 1 ≤ E → MZ T n false m2 (if x6 = 0 then b_Mod_unit_324 F rcS rcT y m2 else b_Mod_unit_324 F rcS rcT (v a b) m2) k q E := fun y m2 p2 k q E' h3 h5 h6 h7 => by
    have z : ∀ x, MZ T n false m2 (b_Mod_unit_324 F rcS rcT x m2) k q E := fun x => (m_b324F h3 h5 (by omega) (by omega) hF).tr Fr.rf (by omega)
    repeat' split
    all_goals exact z _
  refine MO.bind (m_sign h hF (by decide)) (fun q z y m1 e _ h1 f _ => ?_) (fun y m1 p1 k q h1 h2 _ => ?_)
  · refine MO.bind (hS m1 q h1) (fun q2 u y m2 e2 r2 h2 f2 _ => ?_) (fun y m2 p2 k q h3 h5 _ => zz y m2 p2 k q ES h3 h5 hE (by omega))
    subst r2
    by_cases z : x6 = 0
    · rw [if_pos z]
      exact (m_b324 (v := fun a b => if c a b = 0 then u a b else v a b) h2 (by show _ = if c a b = 0 then _ else _; rw [if_pos (hx.mp z)]) hF).tr Fr.rf (by omega)
    · rw [if_neg z]
      exact (m_b324 (v := fun a b => if c a b = 0 then u a b else v a b) h2 (by show _ = if c a b = 0 then _ else _; rw [if_neg (fun q => z (hx.mpr q))]) hF).tr Fr.rf (by omega)
  · exact (hSF 400 _ _ _ _ (by omega) (by omega) h1 h2).bind (fun y m2 p2 h3 h5 _ => zz y m2 p2 k q 400 h3 h5 (by omega) (by omega))
/-- what stands behind an opening -/
theorem m_b184 {m : aM} {p o E : Nat} {ok : Prop} {R : pV → Int32 → Prop} {x3 x4 x5 : Int32} {k : Nat → pO pV} (h : MS T n s a b ft m p o) (ho : o ≤ 6) (hE : 400 ≤ E) (hF : 5000 ≤ F)
    (hK : o < 6 → ∀ q m5, MS T n s a b ft m5 q (o + 1) → MO T n s a b ft ok R o E false m5 (if x5 = 0 then b_Mod_unit_233 F rcS rcT x3 x4 x5 m5 else o_b2 (g_Mod_ors F rcS rcT m5) fun y6 m7 => (if y6 = 0 then b_Mod_unit_233 F rcS rcT x3 x4 x5 m7 else b_Mod_unit_234 F rcS rcT x3 x4 x5 1 m7)) (k q))
    (hKF : ∀ m5 p5 k q, MF T n m5 p5 k q → p5 ≤ 401 → MZ T n false m5 (if x5 = 0 then b_Mod_unit_233 F rcS rcT x3 x4 x5 m5 else o_b2 (g_Mod_ors F rcS rcT m5) fun y6 m7 => (if y6 = 0 then b_Mod_unit_233 F rcS rcT x3 x4 x5 m7 else b_Mod_unit_234 F rcS rcT x3 x4 x5 1 m7)) k q E) :
    MO T n s a b ft ok R o E false m (b_Mod_unit_184 F rcS rcT x3 x4 x5 m) (pOp T 40 o p k) := by
  obtain ⟨e, h1⟩ := m_blanksS h hF
  have g := h1.2.2.2.2.2.1
  have h4 := h.n4
  unfold b_Mod_unit_184 pOp
  simp only [e, o_b2_some, a_st_self, m_byte h1.1 (show kp T p < 2 ^ 31 by omega), o_b_some]
  by_cases c : T (kp T p) = 40
  · simp only [if_pos c]
    have hl := h.1.1.lt c (by decide)
    have op := m_opens (x := 1) h1 ho (by omega)
    by_cases o6 : o < 6
    · obtain ⟨e1, h2⟩ := op.1 o6
      rw [if_pos o6, show (1 : Int32) = nI 1 from rfl, e1, o_b2_some]
      exact (hK o6 _ _ h2).tr ((at_fr.tr op_fr).tr at_fr) (Nat.le_refl _)
    · obtain ⟨m', e1, h2, h3⟩ := op.2 o6
      rw [if_neg o6, show (1 : Int32) = nI 1 from rfl, e1, o_b2_some]
      exact MO.fau ((hKF _ _ _ _ h2 (by omega)).tr (at_fr.tr h3) (Nat.le_refl _))
  · simp only [if_neg c, m_wrong h1.2.2.2.1, o_b2_some]
    exact MO.fau ⟨_, _, _, rfl, h1.wr (by decide) _, by omega, at_fr.tr wr_fr, nob⟩
theorem ww {x c : Int32} {w : List Int32} {q : Nat} {α : Type} {A B : α} (h : x = c ↔ tW T q w = true) : (if x = c then A else B) = if tW T q w = true then A else B := by
  by_cases d : x = c
  · rw [if_pos d, if_pos (h.mp d)]
  · rw [if_neg d, if_neg (fun z => d (h.mpr z))]
theorem m_unitG : MG T n (g_Mod_unit F rcS rcT) false := fun E m p k q h4 hE h hp => by
  unfold g_Mod_unit
  rw [if_neg h.ne]
  exact ⟨_, _, p, rfl, h, hp, Fr.rf, nob⟩
theorem tW_1 {c d : Int32} {w w' : List Int32} {q : Nat} (h : tW T q (c :: w) = true) (hd : c ≠ d) : ¬ tW T q (d :: w') = true := by
  simp only [tW, Bool.and_eq_true, decide_eq_true_eq] at h ⊢
  exact fun z => hd (h.1.symm.trans z.1)
theorem m_unit {S C : Nat → pO pV} {o ES E : Nat} (hs1 : s ≠ 0 → al = true) (hS : o < 6 → MQx T n al s a b ft rcS S (o + 1) ES false) (hC : o < 6 → MQx T n al s a b ft (g_Mod_ors F rcS rcT) C (o + 1) (ES + 10) true) (hSF : MG T n rcS false) (hCF : MG T n (g_Mod_ors F rcS rcT) true) (ho : o ≤ 6) (hE : 400 ≤ ES) (hE1 : ES + 20 ≤ E) (hE2 : E ≤ 3000) (hF : 5000 ≤ F) :
    MQx T n al s a b ft (g_Mod_unit F rcS rcT) (pU T al S C o) o E false := fun m p h => by
  obtain ⟨e, h1⟩ := m_blanksS h hF
  have g := h1.2.2.2.2.2.1
  have h4 := h.n4
  have g0 := kp_ge (T := T) (p := p)
  have hkk : kp T (kp T p) = kp T p := kp_kp h.1.1
  have ml := m_letter (F := F) h1.1 h1.2.1 (by omega) (by omega)
  rw [hkk, a_st_st] at ml
  obtain ⟨x, ew, w1, w2, w3, _⟩ := m_word (F := F) h1.1 h1.2.1 (by omega) hF
  rw [hkk, a_st_st] at ew
  rw [hkk] at w1 w2 w3
  have le : ∀ {r y}, MO T n s a b ft (al = true → s ≠ 0) (fun (v : pV) x => x = v a b) o E false (a_st m 242 13 (nI (kp T p))) r y → MO T n s a b ft (al = true → s ≠ 0) (fun (v : pV) x => x = v a b) o E false m r y := fun h => h.tr at_fr (Nat.le_refl _)
  have hKF : ∀ (x3 x4 x5 : Int32) m5 p5 k q, MF T n m5 p5 k q → p5 ≤ 401 → MZ T n false m5 (if x5 = 0 then b_Mod_unit_233 F rcS rcT x3 x4 x5 m5 else o_b2 (g_Mod_ors F rcS rcT m5) fun y6 m7 => (if y6 = 0 then b_Mod_unit_233 F rcS rcT x3 x4 x5 m7 else b_Mod_unit_234 F rcS rcT x3 x4 x5 1 m7)) k q E := fun x3 x4 x5 m5 p5 k q hm hp => by
    unfold b_Mod_unit_233
    split
    · exact (m_b234F hSF hm hp (by omega) (by omega) hF).tr Fr.rf (by omega)
    · refine (hCF 401 _ _ _ _ (by omega) (by omega) hm hp).bind (fun y m2 p2 h3 h5 _ => ?_)
      split
      · exact (m_b234F hSF h3 h5 (by omega) (by omega) hF).tr Fr.rf (by omega)
      · exact (m_b234F hSF h3 h5 (by omega) (by omega) hF).tr Fr.rf (by omega)
  have sw : ∀ w : List Int32, (∀ c ∈ w, tS c) → w.length < 100 → tW T (kp T p) w = true → kp T p + w.length ≤ n → f_Mod_skipWord F (a_st m 242 13 (nI (kp T p))) = some (0, a_st m 242 13 (nI (kp T p + w.length))) ∧ MS T n s a b ft (a_st m 242 13 (nI (kp T p + w.length))) (kp T p + w.length) o := fun w c1 c2 c3 c4 => ⟨by rw [m_skipW h1.1 h1.2.1 (by omega) c1 c2 c3 hF, a_st_st], h.at c4⟩
  unfold g_Mod_unit b_Mod_unit_121 b_Mod_unit_143 b_Mod_unit_164 b_Mod_unit_180 pU
  simp only [h.2.2.2.1, if_true, e, o_b2_some, a_st_self, m_byte h1.1 (show kp T p < 2 ^ 31 by omega), o_b_some, m_digit, ml, ew, show ∀ m, f_Mod_word 12 5 1 19 20 m = some (nI 6476969) from fun _ => rfl, show ∀ m, f_Mod_word 13 15 19 20 0 m = some (nI 267347) from fun _ => rfl, show ∀ m, f_Mod_word 9 6 0 0 0 m = some (nI 249) from fun _ => rfl]
  by_cases d : tD (T (kp T p))
  · simp only [if_pos d, show ¬ (1 : Int32) = 0 by decide, if_false]
    have := (m_number (ok := al = true → s ≠ 0) h1 hF).bind (c := fun y12 m13 => some (y12, m13)) (Y := fun q v => .inr (q, v)) (R := fun v x => x = v a b) (E := E) (o := o) (bl := false) (fun q v x m1 e r h1 f _ => MO.ret r h1 Fr.rf nob) (fun x m1 p1 k q h1 h2 _ => ⟨_, _, p1, rfl, h1, by omega, Fr.rf, nob⟩)
    have idn : ∀ y : pO pV, (pB y fun q v => .inr (q, v)) = y := fun y => by cases y <;> rfl
    rw [idn] at this
    exact le this
  simp only [if_neg d, if_true]
  by_cases l : tL T (kp T p) = -1
  · simp only [if_pos l, ww w1, ww w2, ww w3]
    by_cases l1 : tW T (kp T p) wLeast = true
    · have hl := tW_lt h.1.1 wLeast (kp T p) (by decide) g l1
      obtain ⟨s1, s2⟩ := sw wLeast (by decide) (by decide) l1 hl
      have t40 : ¬ T (kp T p) = 40 := fun z => by simp [tW, z] at l1
      simp only [if_pos l1, if_neg (tW_1 l1 (w' := [111, 115, 116]) (show (108 : Int32) ≠ 109 by decide)), if_neg (tW_1 l1 (w' := [102]) (show (108 : Int32) ≠ 105 by decide)), show ¬ (1 : Int32) = 0 by decide, if_false, s1, o_b2_some, if_neg t40]
      refine (m_b184 s2 ho (by omega) hF (fun o6 q m5 h5 => ?_) (hKF 1 0 0)).tr at_fr (Nat.le_refl _)
      simp only [if_true, b_Mod_unit_233, b_Mod_unit_234, b_Mod_unit_247, show ¬ (1 : Int32) = 0 by decide, if_false]
      exact MO.bind (hS o6 m5 q h5) (fun q2 v y m2 e2 r2 h2 f2 _ => by subst r2; exact m_pair2 (x := 10) (hS o6) hSF h2 (Or.inl ⟨rfl, rfl⟩) hE (by omega) (by omega) hF) (fun y m2 p2 k q h3 h5 _ => (m_b267F hSF h3 h5 (by omega) (by omega) hF).tr Fr.rf (by omega))
    simp only [if_neg l1]
    by_cases l2 : tW T (kp T p) wMost = true
    · have hl := tW_lt h.1.1 wMost (kp T p) (by decide) g l2
      obtain ⟨s1, s2⟩ := sw wMost (by decide) (by decide) l2 hl
      have t40 : ¬ T (kp T p) = 40 := fun z => by simp [tW, z] at l2
      simp only [if_pos l2, if_neg (tW_1 l2 (w' := [102]) (show (109 : Int32) ≠ 105 by decide)), show ¬ (1 : Int32) = 0 by decide, if_false, if_true, s1, o_b2_some, if_neg t40]
      refine (m_b184 s2 ho (by omega) hF (fun o6 q m5 h5 => ?_) (hKF 0 1 0)).tr at_fr (Nat.le_refl _)
      simp only [if_true, b_Mod_unit_233, b_Mod_unit_234, b_Mod_unit_247, show ¬ (1 : Int32) = 0 by decide, if_false]
      exact MO.bind (hS o6 m5 q h5) (fun q2 v y m2 e2 r2 h2 f2 _ => by subst r2; exact m_pair2 (x := 11) (hS o6) hSF h2 (Or.inr ⟨rfl, rfl⟩) hE (by omega) (by omega) hF) (fun y m2 p2 k q h3 h5 _ => (m_b267F hSF h3 h5 (by omega) (by omega) hF).tr Fr.rf (by omega))
    simp only [if_neg l2]
    by_cases l3 : tW T (kp T p) wIf = true
    · have hl := tW_lt h.1.1 wIf (kp T p) (by decide) g l3
      obtain ⟨s1, s2⟩ := sw wIf (by decide) (by decide) l3 hl
      have t40 : ¬ T (kp T p) = 40 := fun z => by simp [tW, z] at l3
      simp only [if_pos l3, show ¬ (1 : Int32) = 0 by decide, if_false, if_true, s1, o_b2_some, if_neg t40]
      refine (m_b184 s2 ho (by omega) hF (fun o6 q m5 h5 => ?_) (hKF 0 0 1)).tr at_fr (Nat.le_refl _)
      simp only [b_Mod_unit_233, show ¬ (1 : Int32) = 0 by decide, if_false]
      refine MO.bind (hC o6 m5 q h5) (fun q2 c y m2 e2 r2 h2 f2 i2 => ?_) (fun y m2 p2 k q h3 h5 _ => ?_)
      · have tail : ∀ x6, (x6 = 0 ↔ c a b = 0) → MO T n s a b ft (al = true → s ≠ 0) (fun (v : pV) x => x = v a b) o E false m2 (b_Mod_unit_234 F rcS rcT 0 0 1 x6 m2) (pB (pSg T 44 q2) fun p3 _ => pB (S p3) fun p4 v => pB (pSg T 44 p4) fun p5 _ => pB (S p5) fun p6 u => pB (pSg T 41 p6) fun p7 _ => .inr (p7, fun a b => if c a b = 0 then u a b else v a b)) := fun x6 hx6 => by
          simp only [b_Mod_unit_234, b_Mod_unit_247, if_true, show ¬ (1 : Int32) = 0 by decide, if_false]
          refine MO.bind (m_sign h2 hF (by decide)) (fun q3 z y3 m3 e3 _ h3 f3 _ => ?_) (fun y m3 p3 k q h3 h5 _ => ?_)
          · exact MO.bind (hS o6 m3 q3 h3) (fun q4 v y4 m4 e4 r4 h4 f4 _ => by subst r4; exact m_if2 (hS o6) hSF h4 hx6 hE (by omega) (by omega) hF) (fun y m2 p2 k q h3 h5 _ => (m_b267F hSF h3 h5 (by omega) (by omega) hF).tr Fr.rf (by omega))
          · exact (hSF 400 _ _ _ _ (by omega) (by omega) h3 h5).bind (fun y m4 p4 h6 h7 _ => (m_b267F hSF h6 h7 (by omega) (by omega) hF).tr Fr.rf (by omega))
        subst r2
        by_cases z : c a b = 0
        · rw [if_pos z]
          exact tail 0 ⟨fun _ => z, fun _ => rfl⟩
        · rw [if_neg z]
          exact tail 1 ⟨fun q => absurd q (by decide), fun q => absurd q z⟩
      · split
        · exact (m_b234F hSF h3 h5 (by omega) (by omega) hF).tr Fr.rf (by omega)
        · exact (m_b234F hSF h3 h5 (by omega) (by omega) hF).tr Fr.rf (by omega)
    simp only [if_neg l3, if_true]
    have par : MO T n s a b ft (al = true → s ≠ 0) (fun (v : pV) x => x = v a b) o E false (a_st m 242 13 (nI (kp T p))) (b_Mod_unit_184 F rcS rcT 0 0 0 (a_st m 242 13 (nI (kp T p)))) (pPa T S 40 41 o (kp T p)) := by
      refine m_b184 h1 ho (by omega) hF (fun o6 q m5 h5 => ?_) (hKF 0 0 0)
      simp only [if_true, b_Mod_unit_233, b_Mod_unit_234, b_Mod_unit_247]
      exact MO.bind (hS o6 m5 q h5) (fun q2 v y m2 e2 r2 h2 f2 _ => (m_b324 h2 r2 hF).tr Fr.rf (by omega)) (fun y m2 p2 k q h3 h5 _ => (m_b324F h3 h5 (by omega) (by omega) hF).tr Fr.rf (by omega))
    refine le ?_
    by_cases t40 : T (kp T p) = 40
    · rw [if_pos t40]
      exact par
    · rw [if_neg t40]
      unfold pPa pOp at par
      rw [hkk, if_neg t40] at par
      exact par
  · simp only [if_neg l]
    obtain ⟨k, k8, ek, ek1⟩ := tL_in l
    have hl := h.1.1.lt (p := kp T p) rfl ek1
    have b63 : ∀ m', m' 242 13 = nI (kp T p) → b_Mod_unit_63 F rcS rcT (nI k) m' = some (if k < 4 then m' 249 k else m' 250 (k - 4), a_st m' 242 13 (nI (kp T p + 1))) := fun m' hm => by
      unfold b_Mod_unit_63
      simp only [o_let_eq, hm, nI_1]
      by_cases c : k < 4
      · rw [if_pos c, if_pos (show nI k ≤ 3 from nI_le (b := 3) (by omega) (by decide)), inb_nI c (by decide), o_gd_t, nI_clamp (by omega), a_st_no (by omega)]
      · rw [if_neg c, if_neg (show ¬ nI k ≤ 3 from nI_ge (a := 3) (by omega) (by omega)), show nI k - 4 = nI (k - 4) from pk_sub (b := 4) (by omega), inb_nI (show k - 4 < 4 by omega) (by decide), o_gd_t, nI_clamp (by omega), a_st_no (by omega)]
    have e249 : a_st m 242 13 (nI (kp T p)) 249 = a := h1.2.2.2.2.2.2.1
    have e250 : a_st m 242 13 (nI (kp T p)) 250 = b := h1.2.2.2.2.2.2.2.1
    rw [ek]
    refine le ?_
    by_cases c : k < 4
    · rw [if_pos (show nI k ≤ 3 from nI_le (b := 3) (by omega) (by decide)), if_neg (fun z => z.2 (show nI k < 4 from nI_lt (b := 4) c (by decide))), b63 _ a_st_self, if_pos c, e249]
      exact MO.ret (by rw [pLt_lo c]) (h1.at (by omega)) at_fr nob
    · rw [if_neg (show ¬ nI k ≤ 3 from nI_ge (a := 3) (by omega) (by omega)), h1.2.2.2.2.1]
      have c4 : ¬ nI k < 4 := nI_nlt (b := 4) (by omega) (by omega)
      by_cases z : s = 0
      · rw [if_pos z, b63 _ a_st_self, if_neg c, e250]
        by_cases y : al = true ∧ ¬ nI k < 4
        · rw [if_pos y]
          refine ⟨fun q v e => by simp at e, fun hok => absurd z (hok y.1)⟩
        · rw [if_neg y]
          exact MO.ret (by rw [pLt_hi (by omega) k8]) (h1.at (by omega)) at_fr nob
      · rw [if_neg z, if_pos ⟨hs1 z, c4⟩, m_wrong h1.2.2.2.1, o_b2_some, b63 _ (h1.wr (k := 1) (by decide) (kp T p)).2.1]
        exact MO.fau ⟨_, _, _, rfl, (h1.wr (by decide) _).at _, by omega, wr_fr.tr at_fr, nob⟩
end
