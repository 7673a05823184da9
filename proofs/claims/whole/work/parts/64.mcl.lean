/-! THE REFERENCE'S READER: clauses -/
def kB (w : Nat) (f : Nat → Bool) : Prop := w < 16 ∧ ∀ l, l < 4 → w.testBit l = f l
def RSt (m : aM) (st : lS) (c : Nat) : Prop := m 242 19 = nI c ∧ m 242 20 = nI st.2.2.1.length ∧ (∃ w, m 242 21 = nI w ∧ kB w st.2.1) ∧ (∀ l, l < 8 → (st.1 l = none → m 247 l = -1) ∧ ∀ x, st.1 l = some x → m 247 l = nI x.1) ∧ (∀ i x, st.2.2.1[i]? = some x → m 248 i = nI x.1)
def fM2 : Nat → Nat → Prop := fun b j => b = 242 ∧ (j = 13 ∨ j = 14 ∨ j = 15 ∨ j = 16 ∨ j = 18 ∨ j = 19 ∨ j = 20 ∨ j = 21) ∨ b = 247 ∨ b = 248
theorem fM_2 : ∀ b j, fM b j → fM2 b j := fun b j h => by
  unfold fM at h
  unfold fM2
  omega
def MX (T : Nat → Int32) (n : Nat) (m : aM) (p : Nat) : Prop := TM T n m ∧ m 242 13 = nI p ∧ m 242 14 = nI 0 ∧ m 242 15 = 0 ∧ p ≤ n
theorem MX.ms {T : Nat → Int32} {n : Nat} {m : aM} {p : Nat} (h : MX T n m p) : MS T n (m 242 18) (m 249) (m 250) (m 242 16) m p 0 := ⟨h.1, h.2.1, h.2.2.1, h.2.2.2.1, rfl, h.2.2.2.2, rfl, rfl, rfl⟩
theorem MX.of {T : Nat → Int32} {n : Nat} {m : aM} {p : Nat} {s : Int32} {a b : Nat → Int32} {ft : Int32} (h : MS T n s a b ft m p 0) : MX T n m p := ⟨h.1, h.2.1, h.2.2.1, h.2.2.2.1, h.2.2.2.2.2.1⟩
theorem TM.fr2 {T : Nat → Int32} {n : Nat} {m m' : aM} (h : TM T n m) (f : Fr fM2 m m') : TM T n m' := ⟨h.1, (f 242 2 (by simp [fM2])).trans h.2.1, fun j hj => by rw [f 242 17 (by simp [fM2]), f 243 j (by simp [fM2]), f 244 j (by simp [fM2])]; exact h.2.2 j hj⟩
theorem RSt.fr {m m' : aM} {st : lS} {c : Nat} (h : RSt m st c) (f : Fr fM m m') : RSt m' st c := by
  obtain ⟨h1, h2, ⟨w, h3, h3'⟩, h4, h5⟩ := h
  refine ⟨(f _ _ (by simp [fM])).trans h1, (f _ _ (by simp [fM])).trans h2, ⟨w, (f _ _ (by simp [fM])).trans h3, h3'⟩, fun l hl => ?_, fun i x hx => (f _ _ (by simp [fM])).trans (h5 i x hx)⟩
  rw [f 247 l (by simp [fM])]
  exact h4 l hl
/-- one clause and the sign behind it -/
def Cz (F : Nat) (m : aM) : Option (Int32 × aM) := o_b2 (f_Mod_clause F m) fun _ m2 => if m2 242 15 = 0 then o_b2 (f_Mod_sign F 59 m2) fun _ m4 => some (0, m4) else some (0, m2)
theorem Cz_eq (F : Nat) (rec_65 : aM → Option (Int32 × aM)) (m : aM) : lb_Mod_readAll_65 F rec_65 m = if m 242 15 = 0 then (if m 242 2 ≤ m 242 13 then some (0, m) else o_b2 (Cz F m) fun _ m2 => b_Mod_readAll_100 F rec_65 m2) else some (0, m) := by
  unfold lb_Mod_readAll_65 Cz
  cases f_Mod_clause F m with
  | none => rfl
  | some x =>
    simp only [o_b2]
    by_cases c : x.2 242 15 = 0
    · simp only [if_pos c]
      cases f_Mod_sign F 59 x.2 with
      | none => rfl
      | some y => rfl
    · simp only [if_neg c]
def CzO (T : Nat → Int32) (n : Nat) (m : aM) (c : Nat) (r : Option (Int32 × aM)) (y : pO lS) : Prop := (∀ p st, y = .inr (p, st) → ∃ m', r = some (0, m') ∧ MX T n m' p ∧ RSt m' st c ∧ m' 242 16 = m 242 16 ∧ Fr fM2 m m') ∧ (∀ k p, y = .inl (k, p) → ∃ m' p', r = some (0, m') ∧ MF T n m' p' k p ∧ p' ≤ 2000 ∧ Fr fM2 m m')
theorem kB_bit : ∀ w, w < 16 → ∀ l, l < 4 → ((nI w ||| ((1 : Int32) <<< (nI l &&& 31))) = nI (w ||| 2 ^ l) ∧ w ||| 2 ^ l < 16 ∧ ∀ j, j < 4 → (w ||| 2 ^ l).testBit j = if j = l then true else w.testBit j) := by decide +kernel
theorem kB_kept : ∀ w, w < 16 → ∀ l, l < 4 → ((nI w >>> (nI l &&& 31)) &&& 1) = if w.testBit l = true then 1 else 0 := by decide +kernel
section
variable {T : Nat → Int32} {n F q c : Nat} {m : aM} {st : lS}
/-- a sign behind a clause that was read -/
theorem z_end {m1 : aM} {p : Nat} {st' : lS} (h : MX T n m1 p) (hs : RSt m1 st' c) (h16 : m1 242 16 = m 242 16) (f : Fr fM2 m m1) (hF : 5000 ≤ F) : CzO T n m c (if m1 242 15 = 0 then o_b2 (f_Mod_sign F 59 m1) fun _ m4 => some (0, m4) else some (0, m1)) (pB (pSg T 59 p) fun p' _ => .inr (p', st')) := by
  rw [if_pos h.2.2.2.1]
  have sg := m_sign (ok := True) (c := 59) h.ms hF (by decide)
  refine ⟨fun p' st2 e => ?_, fun k p' e => ?_⟩
  · obtain ⟨p2, z, ez, e⟩ := pB_inr e
    simp only [Sum.inr.injEq, Prod.mk.injEq] at e
    obtain ⟨rfl, rfl⟩ := e
    obtain ⟨x, m', e1, _, h1, f1, _⟩ := sg.1 p2 z ez
    exact ⟨m', by rw [e1]; rfl, MX.of h1, hs.fr f1, h1.2.2.2.2.2.2.2.2.trans h16, f.tr (f1.mono fM_2)⟩
  · rcases pB_inl e with e | ⟨p2, z, ez, e⟩
    · obtain ⟨x, m', p2, e1, h1, h2, f1, _⟩ := sg.2 trivial k p' e
      exact ⟨m', p2, by rw [e1]; rfl, h1, by omega, f.tr (f1.mono fM_2)⟩
    · simp at e
/-- a fault in a clause -/
theorem z_fau {m1 : aM} {p p' : Nat} {k : Int32} (h : MF T n m1 p' k p) (hp : p' ≤ 2000) (f : Fr fM2 m m1) : CzO T n m c (if m1 242 15 = 0 then o_b2 (f_Mod_sign F 59 m1) fun _ m4 => some (0, m4) else some (0, m1)) (.inl (k, p)) := by
  rw [if_neg h.ne]
  refine ⟨fun p' st2 e => by simp at e, fun k' p2 e => ?_⟩
  simp only [Sum.inl.injEq, Prod.mk.injEq] at e
  obtain ⟨rfl, rfl⟩ := e
  exact ⟨m1, p', rfl, h, hp, f⟩
theorem m_clk (h : MX T n m q) (hs : RSt m st c) (hw : tW T q wKeep = true) (hF : 5000 ≤ F) {x1 : Int32} : CzO T n m c (o_b2 (b_Mod_clause_105 F x1 1 0 m) fun _ m2 => if m2 242 15 = 0 then o_b2 (f_Mod_sign F 59 m2) fun _ m4 => some (0, m4) else some (0, m2)) (pClk T st q) := by
  have h4 := h.1.1.1
  have hq := h.2.2.2.2
  have hl := tW_lt h.1.1 wKeep q (by decide) hq hw
  have sk := m_skipW h.1 h.2.1 (show q ≤ 3000 by omega) (show ∀ c ∈ wKeep, tS c by decide) (by decide) hw hF
  simp only [List.length_cons, List.length_nil, Nat.reduceAdd] at hl sk
  have h1 := h.ms.at (q := q + 4) (by omega)
  have gl := kp_le h.1.1 (show q + 4 ≤ n by omega)
  have h2 := h.ms.at (q := kp T (q + 4)) gl
  have ml := m_letter (F := F) h1.1 h1.2.1 (by omega) (by omega)
  rw [a_st_st] at ml
  unfold b_Mod_clause_105 b_Mod_clause_184 pClk
  simp only [h.2.2.2.1, if_true, show ¬ (1 : Int32) = 0 by decide, if_false, sk, o_b2_some, ml]
  by_cases b : tL T (kp T (q + 4)) = -1
  · simp only [if_pos b, b, true_or, if_true, h2.2.1, m_wrong h2.2.2.2.1, o_b2_some]
    exact z_fau (h2.wr (by decide) _) (by omega) ((at_fr.tr wr_fr).mono fM_2)
  · obtain ⟨l, l8, el, el1⟩ := tL_in b
    have hlt := h.1.1.lt (p := kp T (q + 4)) rfl el1
    rw [el] at b ⊢
    simp only [if_neg b, b, false_or]
    by_cases d : l < 4
    · have c1 : nI l < 4 := nI_lt (b := 4) d (by decide)
      simp only [c1, not_true_eq_false, if_false, if_pos (show nI l ≤ 3 from nI_le (b := 3) (by omega) (by decide)), o_let_eq, o_b2_some, nI_clamp (show l < 2 ^ 31 by omega)]
      have h3 := h.ms.at (q := kp T (q + 4) + 1) (by omega)
      obtain ⟨r1, r2, ⟨w, r3, r3', r3''⟩, r4, r5⟩ := hs
      obtain ⟨k1, k2, k3⟩ := kB_bit w r3' l d
      have e1 : a_st m 242 13 (nI (kp T (q + 4))) 242 21 = nI w := by rw [a_st_no (by decide)]; exact r3
      have e2 : a_st (a_st m 242 13 (nI (kp T (q + 4)))) 242 21 (nI (w ||| 2 ^ l)) 242 13 = nI (kp T (q + 4)) := by rw [a_st_no (by decide), a_st_self]
      rw [e1, k1, e2, nI_1]
      have mx : MX T n (a_st (a_st (a_st m 242 13 (nI (kp T (q + 4)))) 242 21 (nI (w ||| 2 ^ l))) 242 13 (nI (kp T (q + 4) + 1))) (kp T (q + 4) + 1) := ⟨h.1.fr2 (((Fr.rf.st (by simp [fM2])).st (by simp [fM2])).st (by simp [fM2])), a_st_self, by rw [a_st_no (by decide), a_st_no (by decide), a_st_no (by decide)]; exact h.2.2.1, by rw [a_st_no (by decide), a_st_no (by decide), a_st_no (by decide)]; exact h.2.2.2.1, by omega⟩
      refine z_end mx ⟨?_, ?_, ⟨w ||| 2 ^ l, ?_, k2, fun j hj => ?_⟩, fun j hj => ?_, fun i x hx => ?_⟩ (by rw [a_st_no (by decide), a_st_no (by decide), a_st_no (by decide)]) (((Fr.rf.st (by simp [fM2])).st (by simp [fM2])).st (by simp [fM2])) hF
      · rw [a_st_no (by decide), a_st_no (by decide), a_st_no (by decide)]; exact r1
      · rw [a_st_no (by decide), a_st_no (by decide), a_st_no (by decide)]; exact r2
      · rw [a_st_no (by decide), a_st_self]
      · rw [k3 j hj]
        show _ = if j = l then true else st.2.1 j
        rw [r3'' j hj]
      · rw [a_st_ne (by decide), a_st_ne (by decide), a_st_ne (by decide)]; exact r4 j hj
      · rw [a_st_ne (by decide), a_st_ne (by decide), a_st_ne (by decide)]; exact r5 i x hx
    · have c1 : ¬ nI l < 4 := nI_nlt (b := 4) (by omega) (by omega)
      simp only [c1, not_false_eq_true, if_true, if_neg (show ¬ nI l ≤ 3 from nI_ge (a := 3) (by omega) (by omega)), h2.2.1, m_wrong h2.2.2.2.1, o_b2_some]
      exact z_fau (F := F) (h2.wr (by decide) _) (by omega) ((at_fr.tr wr_fr).mono fM_2)
theorem m_clw (h : MX T n m q) (hs : RSt m st c) (hc : st.2.2.1.length < 16) (hw : tW T q wLaw = true) (hF : 5000 ≤ F) {x1 x3 : Int32} : CzO T n m c (o_b2 (b_Mod_clause_105 F x1 x3 1 m) fun _ m2 => if m2 242 15 = 0 then o_b2 (f_Mod_sign F 59 m2) fun _ m4 => some (0, m4) else some (0, m2)) (pClw T st q) := by
  have h4 := h.1.1.1
  have hq := h.2.2.2.2
  have hl := tW_lt h.1.1 wLaw q (by decide) hq hw
  have sk := m_skipW h.1 h.2.1 (show q ≤ 3000 by omega) (show ∀ c ∈ wLaw, tS c by decide) (by decide) hw hF
  simp only [List.length_cons, List.length_nil, Nat.reduceAdd] at hl sk
  obtain ⟨r1, r2, ⟨w, r3, r3'⟩, r4, r5⟩ := hs
  unfold b_Mod_clause_105 pClw
  simp only [h.2.2.2.1, if_true, show ¬ (1 : Int32) = 0 by decide, if_false, sk, o_b2_some, o_let_eq]
  have e1 : a_st m 242 13 (nI (q + 3)) 242 20 = nI st.2.2.1.length := by rw [a_st_no (by decide)]; exact r2
  simp only [e1, inb_nI hc (by decide), o_gd_t, nI_clamp (show st.2.2.1.length < 2 ^ 31 by omega), a_st_self]
  rw [a_st_ne (a := 248) (b := 242) (by decide), e1, nI_1]
  generalize hm : a_st (a_st (a_st (a_st m 242 13 (nI (q + 3))) 248 st.2.2.1.length (nI (q + 3))) 242 20 (nI (st.2.2.1.length + 1))) 242 18 0 = m2
  have f2 : Fr fM2 m m2 := by rw [← hm]; exact (((Fr.rf.st (by simp [fM2])).st (by simp [fM2])).st (by simp [fM2])).st (by simp [fM2])
  have m16 : m2 242 16 = m 242 16 := by rw [← hm, a_st_no (by decide), a_st_no (by decide), a_st_ne (by decide), a_st_no (by decide)]
  have ms : MS T n 0 (m2 249) (m2 250) (m2 242 16) m2 (q + 3) 0 := by
    refine ⟨h.1.fr2 f2, ?_, ?_, ?_, ?_, by omega, rfl, rfl, rfl⟩
    · rw [← hm, a_st_no (by decide), a_st_no (by decide), a_st_ne (by decide), a_st_self]
    · rw [← hm, a_st_no (by decide), a_st_no (by decide), a_st_ne (by decide), a_st_no (by decide)]; exact h.2.2.1
    · rw [← hm, a_st_no (by decide), a_st_no (by decide), a_st_ne (by decide), a_st_no (by decide)]; exact h.2.2.2.1
    · rw [← hm, a_st_self]
  have rs : ∀ v, RSt m2 (lSw st (q + 3, v)) c := fun v => by
    refine ⟨?_, ?_, ⟨w, ?_, r3'⟩, fun l hl => ?_, fun i x hx => ?_⟩
    · rw [← hm, a_st_no (by decide), a_st_no (by decide), a_st_ne (by decide), a_st_no (by decide)]; exact r1
    · rw [← hm, a_st_no (by decide), a_st_self]; simp [lSw]
    · rw [← hm, a_st_no (by decide), a_st_no (by decide), a_st_ne (by decide), a_st_no (by decide)]; exact r3
    · rw [← hm, a_st_ne (by decide), a_st_ne (by decide), a_st_ne (by decide), a_st_ne (by decide)]; exact r4 l hl
    · rw [← hm, a_st_ne (by decide), a_st_ne (by decide)]
      have hx' : (st.2.2.1 ++ [(q + 3, v)])[i]? = some x := hx
      rcases Nat.lt_or_ge i st.2.2.1.length with z | z
      · rw [List.getElem?_append_left z] at hx'
        rw [a_st_no (by omega), a_st_ne (by decide)]
        exact r5 i x hx'
      · rw [List.getElem?_append_right z] at hx'
        have ci : i = st.2.2.1.length := by
          rcases Nat.eq_or_lt_of_le z with z | z
          · exact z.symm
          · rw [List.getElem?_eq_none (by simp; omega)] at hx'
            simp at hx'
        subst ci
        simp only [Nat.sub_self, List.getElem?_cons_zero, Option.some.injEq] at hx'
        subst hx'
        rw [a_st_self]
  have mo := (m_ors0 (T := T) (n := n) (al := false) (s := 0) (a := m2 249) (b := m2 250) (ft := m2 242 16) (fun z => absurd rfl z) hF) m2 (q + 3) ms
  generalize hX : pC T (pLv T false 6).2 (q + 3) = X at mo
  cases X with
  | inl y =>
    obtain ⟨x, m', p', e, h1, h2, h3, _⟩ := mo.2 (fun z => by simp at z) y.1 y.2 rfl
    simp only [e, o_b2_some]
    exact z_fau h1 (by omega) (f2.tr (h3.mono fM_2))
  | inr y =>
    obtain ⟨x, m', e, _, h1, h3, _⟩ := mo.1 y.1 y.2 rfl
    simp only [e, o_b2_some]
    exact z_end (MX.of h1) ((rs y.2).fr h3) (h1.2.2.2.2.2.2.2.2.trans m16) (f2.tr (h3.mono fM_2)) hF
theorem m_cll (h : MX T n m q) (hs : RSt m st c) (hq1 : q < n) (hl : ¬ tL T q = -1) (hF : 5000 ≤ F) : CzO T n m c (o_b2 (b_Mod_clause_105 F (tL T q) 0 0 m) fun _ m2 => if m2 242 15 = 0 then o_b2 (f_Mod_sign F 59 m2) fun _ m4 => some (0, m4) else some (0, m2)) (pCll T st q) := by
  have h4 := h.1.1.1
  obtain ⟨l, l8, el, el1⟩ := tL_in hl
  obtain ⟨r1, r2, ⟨w, r3, r3'⟩, r4, r5⟩ := hs
  have h1 := h.ms.at (q := q + 1) (by omega)
  unfold b_Mod_clause_105 b_Mod_clause_257 pCll
  rw [el]
  simp only [h.2.2.2.1, if_true, o_let_eq, h.2.1, nI_1, inb_nI l8 (by decide), o_gd_t, nI_clamp (show l < 2 ^ 31 by omega), show isb 0 = true from rfl, show isb 1 = true from rfl]
  have fold : ∀ m3 : aM, (if nI l ≤ 3 then (o_b2 (f_Mod_total F (a_st (a_st m3 247 l (m3 242 13)) 242 18 0)) fun y3 m4 => some ((0 : Int32), m4)) else (o_b2 (f_Mod_total F (a_st (a_st m3 247 l (m3 242 13)) 242 18 1)) fun y3 m4 => some (0, m4))) = o_b2 (f_Mod_total F (a_st (a_st m3 247 l (m3 242 13)) 242 18 (if nI l < 4 then 0 else 1))) fun y3 m4 => some (0, m4) := fun m3 => by
    by_cases d : l < 4
    · rw [if_pos (show nI l ≤ 3 from nI_le (b := 3) (by omega) (by decide)), if_pos (show nI l < 4 from nI_lt (b := 4) d (by decide))]
    · rw [if_neg (show ¬ nI l ≤ 3 from nI_ge (a := 3) (by omega) (by omega)), if_neg (show ¬ nI l < 4 from nI_nlt (b := 4) (by omega) (by omega))]
  simp only [fold]
  have sg := m_sign (ok := True) (c := 61) h1 hF (by decide)
  generalize hX : pSg T 61 (q + 1) = X at sg
  have ex : ∀ m3 p1 (s3 : Int32), TM T n m3 → m3 242 13 = nI p1 → Fr fM2 m m3 → ∃ m5, a_st (a_st m3 247 l (nI p1)) 242 18 s3 = m5 ∧ Fr fM2 m m5 ∧ TM T n m5 ∧ m5 242 13 = nI p1 ∧ m5 242 18 = s3 ∧ m5 242 14 = m3 242 14 ∧ m5 242 15 = m3 242 15 ∧ m5 242 16 = m3 242 16 := fun m3 p1 s3 t1 t2 t3 => ⟨_, rfl, (t3.st (by simp [fM2])).st (by simp [fM2]), t1.fr2 ((Fr.rf.st (by simp [fM2])).st (by simp [fM2])), by rw [a_st_no (by decide), a_st_ne (by decide)]; exact t2, a_st_self, by rw [a_st_no (by decide), a_st_ne (by decide)], by rw [a_st_no (by decide), a_st_ne (by decide)], by rw [a_st_no (by decide), a_st_ne (by decide)]⟩
  cases X with
  | inl y =>
    obtain ⟨x, m3, p', e, h2, h3, f3, _⟩ := sg.2 trivial y.1 y.2 rfl
    simp only [e, o_b2_some]
    obtain ⟨m5, e5, f5, t5, a5, s5, _, k5, j5⟩ := ex m3 p' (if nI l < 4 then 0 else 1) h2.1 h2.2.1 ((at_fr.tr f3).mono fM_2)
    rw [h2.2.1, e5]
    have mg : MG T n (f_Mod_total F) false := (m_levG hF 32).1
    obtain ⟨x', m6, p6, e6, h6, h7, f6, _⟩ := mg 400 m5 p' y.1 y.2 (by omega) (by omega) ⟨t5, a5, k5.trans h2.2.2.1, h2.2.2.2.1, j5.trans h2.2.2.2.2⟩ (by omega)
    simp only [e6, o_b2_some]
    exact z_fau h6 (by omega) (f5.tr (f6.mono fM_2))
  | inr y =>
    obtain ⟨x, m3, e, _, h2, f3, _⟩ := sg.1 y.1 y.2 rfl
    simp only [e, o_b2_some, pB]
    obtain ⟨m5, e5, f5, t5, a5, s5, o5, k5, j5⟩ := ex m3 y.1 (if nI l < 4 then 0 else 1) h2.1 h2.2.1 ((at_fr.tr f3).mono fM_2)
    rw [h2.2.1, e5]
    have hp1 := h2.2.2.2.2.2.1
    have m16 : m5 242 16 = m 242 16 := j5.trans h2.2.2.2.2.2.2.2.2
    have ms : MS T n (if nI l < 4 then 0 else 1) (m5 249) (m5 250) (m5 242 16) m5 y.1 0 := ⟨t5, a5, o5.trans h2.2.2.1, k5.trans h2.2.2.2.1, s5, hp1, rfl, rfl, rfl⟩
    have mo := (m_total0 (T := T) (n := n) (al := !decide (nI l < 4)) (s := if nI l < 4 then 0 else 1) (a := m5 249) (b := m5 250) (ft := m5 242 16) (by by_cases d : nI l < 4 <;> simp [d]) hF) m5 y.1 ms
    have rs : ∀ v, RSt m5 (lSl st l (y.1, v)) c := fun v => by
      have z : ∀ b j, ¬ fM b j → b ≠ 247 → ¬ (b = 242 ∧ j = 18) → m5 b j = m b j := fun b j z1 z2 z3 => by
        rw [← e5, a_st_no z3, a_st_ne z2, f3 b j z1]
        exact at_fr b j z1
      refine ⟨(z _ _ (by simp [fM]) (by decide) (by decide)).trans r1, (z _ _ (by simp [fM]) (by decide) (by decide)).trans r2, ⟨w, (z _ _ (by simp [fM]) (by decide) (by decide)).trans r3, r3'⟩, fun j hj => ?_, fun i x hx => (z _ _ (by simp [fM]) (by decide) (by omega)).trans (r5 i x hx)⟩
      show ((if j = l then some (y.1, v) else st.1 j) = none → m5 247 j = -1) ∧ ∀ x, (if j = l then some (y.1, v) else st.1 j) = some x → m5 247 j = nI x.1
      by_cases d : j = l
      · subst d
        simp only [if_true]
        refine ⟨fun z => by simp at z, fun x hx => ?_⟩
        simp only [Option.some.injEq] at hx
        subst hx
        rw [← e5, a_st_no (by omega), a_st_self]
      · simp only [if_neg d]
        have : m5 247 j = m 247 j := by
          rw [← e5, a_st_no (by omega), a_st_no (by omega), f3 247 j (by simp [fM])]
          exact at_fr 247 j (by simp [fM])
        rw [this]
        exact r4 j hj
    generalize hY : (pLv T (!decide (nI l < 4)) 6).1 y.1 = Y at mo
    cases Y with
    | inl z =>
      obtain ⟨x', m6, p6, e6, h6, h7, f6, _⟩ := mo.2 (by by_cases d : nI l < 4 <;> simp [d]) z.1 z.2 rfl
      simp only [e6, o_b2_some]
      exact z_fau h6 (by omega) (f5.tr (f6.mono fM_2))
    | inr z =>
      obtain ⟨x', m6, e6, _, h6, f6, _⟩ := mo.1 z.1 z.2 rfl
      simp only [e6, o_b2_some]
      exact z_end (MX.of h6) ((rs z.2).fr f6) (h6.2.2.2.2.2.2.2.2.trans m16) (f5.tr (f6.mono fM_2)) hF
end
