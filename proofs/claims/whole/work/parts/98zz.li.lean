/-! THE LAW BETWEEN CALLS: n calls are left -/
theorem WAt.ex {g g' : aG} {w : Nat} (h : WAt g w) (x : Ext g g') (e : g'.2.2.1 0 7 = g.2.2.1 0 7) : WAt g' w := ⟨e.trans h.1, h.2.1.ext x h.2.2, Nat.lt_of_lt_of_le h.2.2 x.1⟩
theorem LAt.ex {g g' : aG} {w : Nat} (h : LAt g w) (x : Ext g g') (e : g'.2.2.1 21 8 = g.2.2.1 21 8) : LAt g' w := ⟨e.trans h.1, h.2.1.ext x h.2.2, Nat.lt_of_lt_of_le h.2.2 x.1⟩
def LW (m : aM) (g : aG) (a : Nat) : Prop := g.2.2.1 0 7 = none ∨ ∃ w, 8693 ≤ w ∧ WAt g w ∧ Wy m a w
def LL (g : aG) : Prop := g.2.2.1 21 8 = none ∨ ∃ l, 8693 ≤ l ∧ LAt g l
def LD (g : aG) : Prop := ∀ w l, g.2.2.1 0 7 = some w → g.2.2.1 21 8 = some l → w + 6 < l ∨ l + 2 < w
def LB (n : Nat) (g : aG) (bc bs : Nat) : Prop := 40 * n ≤ bc ∧ ∃ pw pl, 7100 * n + pw + pl ≤ bs ∧ (g.2.2.1 0 7 = none → 28000 ≤ pw) ∧ (g.2.2.1 21 8 = none → 41000 ≤ pl)
def LSy (g : aG) : Prop := Sys g ∧ SyM g ∧ g.2.1 8692 = (2, 1) ∧ 8693 ≤ g.1
def LI (n : Nat) (g : aG) (m : aM) (bc bs : Nat) : Prop := Iv m ∧ LSy g ∧ (∃ a, m 29 7 = nI a ∧ 1 ≤ a ∧ a + n ≤ 600 ∧ LW m g a) ∧ LL g ∧ LD g ∧ LB n g bc bs
theorem LSy.ex {g g' : aG} (h : LSy g) (x : Ext g g') : LSy g' := ⟨h.1.ext x (by have := h.2.2.2; omega), h.2.1.ext x (by have := h.2.2.2; omega), (x.2 8692 (by have := h.2.2.2; omega)).1.trans h.2.2.1, Nat.le_trans h.2.2.2 x.1⟩
theorem LI.mono {n bc bs bc' bs' : Nat} {g : aG} {m : aM} (I : LI n g m bc bs) (h1 : bc ≤ bc') (h2 : bs ≤ bs') : LI n g m bc' bs' := by
  obtain ⟨i1, i2, i3, i4, i5, i6, pw, pl, b1, b2, b3⟩ := I
  exact ⟨i1, i2, i3, i4, i5, by omega, pw, pl, by omega, b2, b3⟩
/-- cells that are added, out[0] that is set -/
theorem LI.ex {n bc bs : Nat} {g g' : aG} {m : aM} (I : LI n g m bc bs) (x : ExS g g') : LI n g' m bc bs := by
  obtain ⟨i1, i2, ⟨a, a1, a2, a3, a4⟩, i4, i5, i6, pw, pl, b1, b2, b3⟩ := I
  obtain ⟨x1, x2, x3, x4⟩ := x
  refine ⟨i1, i2.ex x2, ⟨a, a1, a2, a3, ?_⟩, ?_, fun w l h1 h2 => i5 w l (x3.symm.trans h1) (x4.symm.trans h2), i6, pw, pl, b1, fun q => b2 (x3.symm.trans q), fun q => b3 (x4.symm.trans q)⟩
  · rcases a4 with q | ⟨w, w1, w2, w3⟩
    · exact Or.inl (x3.trans q)
    · exact Or.inr ⟨w, w1, w2.ex x2 x3, w3⟩
  · rcases i4 with q | ⟨w, w1, w2⟩
    · exact Or.inl (x4.trans q)
    · exact Or.inr ⟨w, w1, w2.ex x2 x4⟩
theorem gO_ex {f : Int32 → Int64} {g : aG} {r : oX} : ExS g (gO f g r) := by
  cases r with
  | inl y => exact ⟨Nat.le_refl _, ⟨Nat.le_refl _, fun _ _ => ⟨rfl, fun _ _ _ => rfl⟩⟩, rfl, rfl⟩
  | inr E => exact ExS.rf
/-- an ordinary call -/
theorem LI.st {n bc bs bc' bs' : Nat} {g : aG} {m m2 : aM} (I : LI (n + 1) g m bc bs) (iv : Iv m2) (ag : m2 29 7 = m 29 7 + 1 ∨ Pst m m2) (f : ∀ b j, 8692 ≤ b → b < g.1 → m2 b j = m b j) (h1 : bc ≤ bc' + 40) (h2 : bs ≤ bs' + 7100) : LI n g m2 bc' bs' := by
  obtain ⟨i1, i2, ⟨a, a1, a2, a3, a4⟩, i4, i5, i6, pw, pl, b1, b2, b3⟩ := I
  refine ⟨iv, i2, ?_, i4, i5, by omega, pw, pl, by omega, b2, b3⟩
  have fw : ∀ w, WAt g w → 8693 ≤ w → ∀ b j, w ≤ b ∧ b ≤ w + 6 → m2 b j = m b j := fun w h h' b j hb => f b j (by omega) (by have := h.2.2; omega)
  rcases ag with ag | ag
  · refine ⟨a + 1, by rw [ag, a1, nI_succ], by omega, by omega, ?_⟩
    rcases a4 with q | ⟨w, w1, w2, w3⟩
    · exact Or.inl q
    · exact Or.inr ⟨w, w1, w2, w3.up (fw w w2 w1)⟩
  · refine ⟨a, (ag _ _ (by omega)).trans a1, by omega, by omega, ?_⟩
    rcases a4 with q | ⟨w, w1, w2, w3⟩
    · exact Or.inl q
    · exact Or.inr ⟨w, w1, w2, w3.st ag (fw w w2 w1)⟩
theorem LI.p {n bc bs bc' bs' : Nat} {g : aG} {m m2 : aM} (I : LI (n + 1) g m bc bs) (iv : Iv m2) (ag : AgP m m2) (h1 : bc ≤ bc' + 40) (h2 : bs ≤ bs' + 7100) : LI n g m2 bc' bs' := I.st iv ag.1 (fun b j h _ => ag.2 b j h) h1 h2
/-- a call on the ways -/
theorem LI.wh {n bc bs : Nat} {g : aG} {m : aM} (I : LI (n + 1) g m bc bs) : ∃ w mw a, Wh g w m mw ∧ 8693 ≤ w ∧ (∀ b j, b < 8692 → mw b j = m b j) ∧ m 29 7 = nI a ∧ a < 1000 ∧ Wy mw a w ∧ ∀ r : oX, ∃ cW sW, ((∃ y, r = .inl y) → WAt g w ∨ (7 ≤ cW ∧ 27876 ≤ sW)) ∧ cW + 8 ≤ bc ∧ sW + 6960 ≤ bs ∧ ∀ g' m2 z, WQX w r g g' → g'.1 ≤ z → WZ w a (fun b => b = z) r m mw m2 → LI n g' m2 (bc - (cW + 5) - 1) (bs - (sW + 44) - 6912) := by
  have I0 := I
  obtain ⟨i1, i2, ⟨a, a1, a2, a3, a4⟩, i4, i5, i6, pw, pl, b1, b2, b3⟩ := I
  have rest : ∀ (w : Nat) (mw : aM), Wh g w m mw → 8693 ≤ w → (∀ b j, ¬ (w ≤ b ∧ b ≤ w + 6) → mw b j = m b j) → Wy mw a w → ∃ w mw a, Wh g w m mw ∧ 8693 ≤ w ∧ (∀ b j, b < 8692 → mw b j = m b j) ∧ m 29 7 = nI a ∧ a < 1000 ∧ Wy mw a w ∧ ∀ r : oX, ∃ cW sW, ((∃ y, r = .inl y) → WAt g w ∨ (7 ≤ cW ∧ 27876 ≤ sW)) ∧ cW + 8 ≤ bc ∧ sW + 6960 ≤ bs ∧ ∀ g' m2 z, WQX w r g g' → g'.1 ≤ z → WZ w a (fun b => b = z) r m mw m2 → LI n g' m2 (bc - (cW + 5) - 1) (bs - (sW + 44) - 6912) := fun w mw W hw f y => by
    refine ⟨w, mw, a, W, hw, fun b j hb => f b j (by omega), a1, by omega, y, fun r => ?_⟩
    cases r with
    | inr E =>
      refine ⟨0, 0, fun q => (by obtain ⟨_, q⟩ := q; cases q), by omega, by omega, fun g' m2 z R hz Z => ?_⟩
      obtain rfl : g' = g := R
      exact I0.st Z.1 (Or.inr Z.2.1) (fun b j h _ => Z.2.2 b j h) (by omega) (by omega)
    | inl y =>
      have go : ∀ cW sW : Nat, (g.2.2.1 0 7 = none → sW ≤ 27876) → (¬ g.2.2.1 0 7 = none → sW = 0) → cW ≤ 7 → ∀ g' m2 z, WQX w (.inl y) g g' → g'.1 ≤ z → WZ w a (fun b => b = z) (.inl y) m mw m2 → LI n g' m2 (bc - (cW + 5) - 1) (bs - (sW + 44) - 6912) := fun cW sW s1 s2 c1 g' m2 z R hz Z => by
        obtain ⟨R1, R2, R3, R4⟩ : WR w g g' := R
        obtain ⟨Z1, Z2, Z3, Z4⟩ := Z
        have l1 : LL g' := by
          rcases i4 with q | ⟨l, l1, l2⟩
          · exact Or.inl (R3.trans q)
          · exact Or.inr ⟨l, l1, l2.ex R1 R3⟩
        refine ⟨Z1, i2.ex R1, ⟨a, (Z2 _ _ (by omega)).trans a1, a2, by omega, Or.inr ⟨w, hw, R2, Z3⟩⟩, l1, fun w' l h1 h2 => ?_, by omega, ?_⟩
        · obtain rfl : w = w' := Option.some.inj (R2.1.symm.trans h1)
          have h2' := R3.symm.trans h2
          rcases W with ⟨A, _⟩ | ⟨A, A2, _⟩
          · exact i5 w l A.1 h2'
          · rcases i4 with q | ⟨l', l1, l2⟩
            · rw [q] at h2'
              cases h2'
            · obtain rfl : l' = l := Option.some.inj (l2.1.symm.trans h2')
              exact Or.inr (by have := l2.2.2; omega)
        · by_cases q : g.2.2.1 0 7 = none
          · have := s1 q
            have := b2 q
            exact ⟨0, pl, by omega, fun q => (by rw [R2.1] at q; cases q), fun q => b3 (R3.symm.trans q)⟩
          · have := s2 q
            exact ⟨0, pl, by omega, fun q => (by rw [R2.1] at q; cases q), fun q => b3 (R3.symm.trans q)⟩
      rcases W with ⟨A, _⟩ | ⟨A, A2, _⟩
      · exact ⟨0, 0, fun _ => Or.inl A, by omega, by omega, go 0 0 (fun _ => by omega) (fun _ => rfl) (by omega)⟩
      · have := b2 A
        exact ⟨7, 27876, fun _ => Or.inr ⟨by omega, by omega⟩, by omega, by omega, go 7 27876 (fun _ => by omega) (fun q => absurd A q) (by omega)⟩
  rcases a4 with q | ⟨w, w1, w2, w3⟩
  · obtain ⟨v, mw, e1, e2, e3⟩ := way_new g.1 m
    exact rest g.1 mw (Or.inr ⟨q, rfl, v, e1⟩) i2.2.2.2 e3 ⟨0, by omega, e2, fun e => by omega⟩
  · exact rest w m (Or.inl ⟨w2, rfl⟩) w1 (fun _ _ _ => rfl) w3
/-- lost -/
theorem LI.lh {n bc bs : Nat} {g : aG} {m : aM} (I : LI (n + 1) g m bc bs) : ∃ l ml, Lh g l m ml ∧ 8693 ≤ l ∧ Iv ml ∧ ∃ cW sW, (LAt g l ∨ (3 ≤ cW ∧ 40962 ≤ sW)) ∧ cW ≤ bc ∧ sW ≤ bs ∧ ∀ g' m2, LR l g g' → Iv m2 → Pst ml m2 → (∀ b j, 8692 ≤ b → b ≠ l + 1 → b ≠ l + 2 → m2 b j = ml b j) → LI n g' m2 (bc - cW) (bs - sW) := by
  obtain ⟨i1, i2, ⟨a, a1, a2, a3, a4⟩, i4, i5, i6, pw, pl, b1, b2, b3⟩ := I
  have rest : ∀ (l : Nat) (ml : aM) (cW sW : Nat), Lh g l m ml → 8693 ≤ l → (∀ b j, ¬ (l ≤ b ∧ b ≤ l + 2) → ml b j = m b j) → (LAt g l ∨ (3 ≤ cW ∧ 40962 ≤ sW)) → (g.2.2.1 21 8 = none ∧ sW ≤ 40962 ∨ sW = 0) → cW ≤ 3 → (LAt g l ∨ g.1 = l) → ∃ l ml, Lh g l m ml ∧ 8693 ≤ l ∧ Iv ml ∧ ∃ cW sW, (LAt g l ∨ (3 ≤ cW ∧ 40962 ≤ sW)) ∧ cW ≤ bc ∧ sW ≤ bs ∧ ∀ g' m2, LR l g g' → Iv m2 → Pst ml m2 → (∀ b j, 8692 ≤ b → b ≠ l + 1 → b ≠ l + 2 → m2 b j = ml b j) → LI n g' m2 (bc - cW) (bs - sW) := fun l ml cW sW W hl f hc hs hc3 hd => by
    have bs1 : 7100 * (n + 1) + pw ≤ bs - sW := by
      rcases hs with ⟨q, hs⟩ | hs
      · have := b3 q
        omega
      · omega
    refine ⟨l, ml, W, hl, i1.fr (fun b j hb => f b j (by unfold sc at hb; omega)), cW, sW, hc, by omega, by omega, fun g' m2 R iv ps fr => ?_⟩
    obtain ⟨R1, R2, R3, R4⟩ := R
    refine ⟨iv, i2.ex R1, ⟨a, ((ps _ _ (by omega)).trans (f _ _ (by omega))).trans a1, a2, by omega, ?_⟩, Or.inr ⟨l, hl, R2⟩, fun w l' h1 h2 => ?_, by omega, pw, 0, by omega, fun q => b2 (R3.symm.trans q), fun q => (by rw [R2.1] at q; cases q)⟩
    · rcases a4 with q | ⟨w, w1, w2, w3⟩
      · exact Or.inl (R3.trans q)
      · refine Or.inr ⟨w, w1, w2.ex R1 R3, w3.st (fun b j hb => (ps b j hb).trans (f b j (by omega))) (fun b j hb => ?_)⟩
        have dj : w + 6 < l ∨ l + 2 < w := by
          rcases hd with q | q
          · exact i5 w l w2.1 q.1
          · have := w2.2.2
            omega
        exact (fr b j (by omega) (by omega) (by omega)).trans (f b j (by omega))
    · obtain rfl : l = l' := Option.some.inj (R2.1.symm.trans h2)
      have h1' := R3.symm.trans h1
      rcases hd with q | q
      · exact i5 w l h1' q.1
      · rcases a4 with q | ⟨w', w1, w2, w3⟩
        · rw [q] at h1'
          cases h1'
        · obtain rfl : w' = w := Option.some.inj (w2.1.symm.trans h1')
          have := w2.2.2
          omega
  rcases i4 with q | ⟨l, l1, l2⟩
  · obtain ⟨v, ml, e1, e3⟩ := lik_new g.1 m
    exact rest g.1 ml 3 40962 (Or.inr ⟨q, rfl, v, e1⟩) i2.2.2.2 e3 (Or.inr ⟨by omega, by omega⟩) (Or.inl ⟨q, by omega⟩) (by omega) (Or.inr rfl)
  · exact rest l m 0 0 (Or.inl ⟨l2, rfl⟩) l1 (fun _ _ _ => rfl) (Or.inl l2) (Or.inr rfl) (by omega) (Or.inl l2)
