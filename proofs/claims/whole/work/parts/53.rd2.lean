/-! THE CLASS'S READER: expressions -/
theorem RS.n4 {T : Nat → Int32} {n : Nat} {al : Bool} {m : aM} {p o u : Nat} (h : RS T n al m p o u) : n ≤ 400 := h.1.1.1
theorem c_readSign {T : Nat → Int32} {n p o u F : Nat} {al : Bool} {c : Int32} {m : aM} (h : RS T n al m p o u) (hF : 401 ≤ F) :
    (T (kp T p) = c → f_Rea_readSign F c m = some (1, a_st m 11 2 (nI (kp T p + 1)))) ∧ (¬ T (kp T p) = c → Fl m (f_Rea_readSign F c m) 1 (kp T p)) := by
  unfold f_Rea_readSign
  simp only [c_isSign h.1 h.2.1 h.2.2.2.2.2.1 hF, o_b2_some]
  refine ⟨fun q => ?_, fun q => ?_⟩
  · simp only [if_pos q, show ¬ (1 : Int32) = 0 by decide, if_false, o_let_eq, a_st_self, nI_1, a_st_st]
  · simp only [if_neg q, if_true]
    exact Fl.tr (Fr.rf.st (by simp [fR])) (Fl.mk2 a_st_self)
theorem c_sign {T : Nat → Int32} {n p o u F : Nat} {al : Bool} {c : Int32} {m : aM} (h : RS T n al m p o u) (hF : 401 ≤ F) (hc : c ≠ -1) :
    (∀ k q, pSg T c p = .inl (k, q) → Fl m (f_Rea_readSign F c m) k q) ∧ (∀ q z, pSg T c p = .inr (q, z) → p < q ∧ f_Rea_readSign F c m = some (1, a_st m 11 2 (nI q)) ∧ RS T n al (a_st m 11 2 (nI q)) q o u) := by
  unfold pSg
  by_cases e : T (kp T p) = c
  · rw [if_pos e]
    refine ⟨fun k q h => by simp at h, fun q z hq => ?_⟩
    simp only [Sum.inr.injEq, Prod.mk.injEq] at hq
    obtain ⟨rfl, _⟩ := hq
    have g := kp_ge (T := T) (p := p)
    have hl := h.1.1.lt e hc
    exact ⟨by omega, (c_readSign h hF).1 e, h.at (by omega) (by have := h.2.2.2.2.2.2; omega)⟩
  · rw [if_neg e]
    refine ⟨fun k q hq => ?_, fun q z h => by simp at h⟩
    simp only [Sum.inl.injEq, Prod.mk.injEq] at hq
    obtain ⟨rfl, rfl⟩ := hq
    exact (c_readSign h hF).2 e
theorem c_open {α : Type} {T : Nat → Int32} {n p o u F : Nat} {al : Bool} {c : Int32} {m : aM} {k : Nat → pO α} (h : RS T n al m p o u) (hF : 401 ≤ F) (hc : c ≠ -1) (ho : o ≤ 6) :
    (∀ y, pOp T c o p k = .inl y → Fl m (f_Rea_readOpening F c m) y.1 y.2 ∨ ∃ m' q, o < 6 ∧ p < q ∧ f_Rea_readOpening F c m = some (1, m') ∧ RS T n al m' q (o + 1) u ∧ (∀ j, m' 13 j = m 13 j ∧ m' 14 j = m 14 j) ∧ Fr fR m m' ∧ k q = .inl y) ∧ (∀ y, pOp T c o p k = .inr y → ∃ m' q, o < 6 ∧ p < q ∧ f_Rea_readOpening F c m = some (1, m') ∧ RS T n al m' q (o + 1) u ∧ (∀ j, m' 13 j = m 13 j ∧ m' 14 j = m 14 j) ∧ Fr fR m m' ∧ k q = .inr y) := by
  unfold pOp f_Rea_readOpening
  simp only [c_isSign h.1 h.2.1 h.2.2.2.2.2.1 hF, o_b2_some]
  have g := kp_ge (T := T) (p := p)
  have g2 := h.2.2.2.2.2.2
  by_cases e : T (kp T p) = c
  · have hl := h.1.1.lt e hc
    simp only [if_pos e, show ¬ (1 : Int32) = 0 by decide, if_false, o_let_eq]
    rw [a_st_no (by decide), h.2.2.1]
    by_cases b : o < 6
    · simp only [b, if_true, show nI o < 6 from nI_lt (b := 6) b (by decide), nI_1]
      have fr : Fr fR m (a_st (a_st (a_st m 11 2 (nI (kp T p))) 11 3 (nI (o + 1))) 11 2 (nI (kp T p + 1))) := ((Fr.rf.st (by simp [fR])).st (by simp [fR])).st (by simp [fR])
      have e2 : a_st (a_st m 11 2 (nI (kp T p))) 11 3 (nI (o + 1)) 11 2 = nI (kp T p) := by simp [a_rd]
      rw [e2, nI_1]
      have rs := ((h.at (q := kp T p) (by omega) (by omega)).op (o + 1)).at (q := kp T p + 1) (by omega) (by omega)
      refine ⟨fun y hy => Or.inr ⟨_, kp T p + 1, trivial, by omega, rfl, rs, fun j => ⟨by simp [a_rd], by simp [a_rd]⟩, fr, hy⟩, fun y hy => ⟨_, kp T p + 1, trivial, by omega, rfl, rs, fun j => ⟨by simp [a_rd], by simp [a_rd]⟩, fr, hy⟩⟩
    · obtain rfl : o = 6 := by omega
      simp only [show ¬ (6 : Nat) < 6 by decide, if_false, show ¬ nI 6 < 6 by decide]
      refine ⟨fun y hy => Or.inl ?_, fun y hy => by simp at hy⟩
      simp only [Sum.inl.injEq] at hy
      subst hy
      exact Fl.tr (Fr.rf.st (by simp [fR])) (Fl.mk2 a_st_self)
  · simp only [if_neg e, if_true]
    refine ⟨fun y hy => Or.inl ?_, fun y hy => by simp at hy⟩
    simp only [Sum.inl.injEq] at hy
    subst hy
    exact Fl.tr (Fr.rf.st (by simp [fR])) (Fl.mk2 a_st_self)
theorem a_st_cm {m : aM} {a i b j : Nat} {x y : Int32} (h : ¬ (b = a ∧ j = i)) : a_st (a_st m a i x) b j y = a_st (a_st m b j y) a i x := by
  funext c k
  by_cases q : c = b ∧ k = j
  · obtain ⟨rfl, rfl⟩ := q
    rw [a_st_self, a_st_no h, a_st_self]
  · rw [a_st_no q]
    by_cases r : c = a ∧ k = i
    · obtain ⟨rfl, rfl⟩ := r
      rw [a_st_self, a_st_self]
    · rw [a_st_no r, a_st_no r, a_st_no q]
theorem close_eq (F : Nat) (c : Int32) (m : aM) : f_Rea_readClosing F c m = o_b2 (f_Rea_readSign F c m) fun y m2 => if y = 0 then some (0, m2) else o_let (a_st m2 11 3 ((m2 11 3) - 1)) fun m3 => some (1, m3) := by
  unfold f_Rea_readClosing f_Rea_readSign
  cases f_Rea_isSign F c m with
  | none => rfl
  | some z =>
    obtain ⟨y, m2⟩ := z
    rw [o_b2_some, o_b2_some]
    by_cases e : y = 0
    · rw [if_pos e, if_pos e, c_fail]
      rfl
    · rw [if_neg e, if_neg e]
      simp only [o_let_eq, o_b2_some, show ¬ (1 : Int32) = 0 by decide, if_false]
      rw [a_st_no (by decide), a_st_no (by decide), a_st_cm (by decide)]
theorem c_close {T : Nat → Int32} {n p o u F : Nat} {al : Bool} {c : Int32} {m : aM} (h : RS T n al m p (o + 1) u) (hF : 401 ≤ F) (hc : c ≠ -1) :
    (∀ k q, pSg T c p = .inl (k, q) → Fl m (f_Rea_readClosing F c m) k q) ∧ (∀ q z, pSg T c p = .inr (q, z) → p < q ∧ ∃ m', f_Rea_readClosing F c m = some (1, m') ∧ RS T n al m' q o u ∧ (∀ j, m' 13 j = m 13 j ∧ m' 14 j = m 14 j) ∧ Fr fR m m') := by
  rw [close_eq]
  have s := c_sign h hF hc
  refine ⟨fun k q hq => ?_, fun q z hq => ?_⟩
  · obtain ⟨m', e, a1, a2, a3⟩ := s.1 k q hq
    rw [e]
    exact ⟨m', by simp [o_b2_some], a1, a2, a3⟩
  · obtain ⟨h1, e, rs⟩ := s.2 q z hq
    refine ⟨h1, _, by rw [e]; simp only [o_b2_some, show ¬ (1 : Int32) = 0 by decide, if_false, o_let_eq, rs.2.2.1, nI_pred], rs.op o, fun j => ⟨by simp [a_rd], by simp [a_rd]⟩, (Fr.rf.st (by simp [fR])).st (by simp [fR])⟩
/-- the numbers -/
theorem c_num_aux {T : Nat → Int32} {n F : Nat} {x1 : Int32} : ∀ (d t p N : Nat) (v : Int32) (m : aM), TC T n m → m 11 2 = nI p → p ≤ n → t + d = 400 → d < N → ll_Rea_readNumber_9 F N x1 v (nI t) m = b_Rea_readNumber_69 F x1 (nm T d v p).1 (a_st m 11 2 (nI (nm T d v p).2))
  | 0, t, p, N, v, m, h, hp, hn, ht, hN => by
    obtain ⟨N, rfl⟩ : ∃ k, N = k + 1 := ⟨N - 1, by omega⟩
    obtain rfl : t = 400 := by omega
    show lb_Rea_readNumber_9 F (ll_Rea_readNumber_9 F N) x1 v (nI 400) m = _
    unfold lb_Rea_readNumber_9 nm
    rw [if_pos (by decide), a_st_id hp]
  | d + 1, t, p, N, v, m, h, hp, hn, ht, hN => by
    obtain ⟨N, rfl⟩ : ∃ k, N = k + 1 := ⟨N - 1, by omega⟩
    have h4 := h.1.1
    show lb_Rea_readNumber_9 F (ll_Rea_readNumber_9 F N) x1 v (nI t) m = _
    unfold lb_Rea_readNumber_9 nm
    simp only [hp, c_byte h (show p < 2 ^ 31 by omega), o_b_some, o_let_eq, if_neg (nI_400 (show t < 400 by omega)), c_digit]
    by_cases c : tD (T p)
    · simp only [if_pos c, show ¬ (1 : Int32) = 0 by decide, if_false, nI_1]
      rw [c_num_aux d (t + 1) (p + 1) N _ _ (h.fr (Fr.rf.st (by simp [fR]))) a_st_self (h.1.dig c) (by omega) (by omega), a_st_st]
    · simp only [if_neg c, if_true, a_st_id hp]
theorem c_number {T : Nat → Int32} {n p o u F K : Nat} {al : Bool} {m : aM} (h : RS T n al m p o u) (hd : tD (T p)) (hF : 401 ≤ F) (hK : 1 ≤ K) :
    ((nm T 400 0 p).1 ≤ 9999 → p < (nm T 400 0 p).2 ∧ Ok T n al m (f_Rea_readNumber F m) p u (nm T 400 0 p).2 o K (fun _ _ => (nm T 400 0 p).1)) ∧ (¬ (nm T 400 0 p).1 ≤ 9999 → Fl m (f_Rea_readNumber F m) 2 p) := by
  have h4 := h.n4
  have e : f_Rea_readNumber F m = b_Rea_readNumber_69 F (nI p) (nm T 400 0 p).1 (a_st m 11 2 (nI (nm T 400 0 p).2)) := by
    unfold f_Rea_readNumber
    rw [h.2.1]
    exact c_num_aux 400 0 p F 0 m h.1 h.2.1 h.2.2.2.2.2.1 rfl (by omega)
  rw [e]
  unfold b_Rea_readNumber_69
  have hp := h.1.1.dig hd
  have g : p < (nm T 400 0 p).2 := by
    unfold nm
    rw [if_pos hd]
    exact nm_ge _ _ _
  have g2 := nm_le h.1.1 400 0 p (by omega)
  have g3 := h.2.2.2.2.2.2
  refine ⟨fun q => ⟨g, ?_⟩, fun q => ?_⟩
  · have rs := h.at (q := (nm T 400 0 p).2) g2 (by omega)
    rw [if_pos q, c_add rs.2.2.2.2.1 (by omega), o_b2_some]
    refine ⟨_, u + 1, rfl, rs.ado (by omega), by omega, by omega, (Cd.num adO_o adO_a).mo hK, fun j hj => ⟨?_, ?_⟩, (Fr.rf.st (by simp [fR])).tr adO_fr⟩
    · rw [adO_13 (by omega)]; simp [a_rd]
    · rw [adO_14 (by omega)]; simp [a_rd]
  · rw [if_neg q]
    simp only [o_let_eq]
    exact Fl.tr ((Fr.rf.st (show fR 11 2 by simp [fR])).st (show fR 11 2 by simp [fR])) (Fl.mk2 a_st_self)
theorem tL_in {T : Nat → Int32} {p : Nat} (h : ¬ tL T p = -1) : ∃ l, l < 8 ∧ tL T p = nI l ∧ T p ≠ -1 := by
  unfold tL at h ⊢
  by_cases a : tS (T (p + 1)) ∨ tC (T (p + 1))
  · rw [if_pos a] at h; exact absurd rfl h
  · rw [if_neg a] at h ⊢
    by_cases b : 97 ≤ T p ∧ T p ≤ 100
    · rw [if_pos b]
      have b1 := b.1
      have b2 := b.2
      rw [i_le] at b1 b2
      have e : T p = nI (T p).toInt.toNat := by rw [i_eq, nI_toInt (by have : (100 : Int32).toInt = 100 := rfl; omega)]; have : (97 : Int32).toInt = 97 := rfl; omega
      have c1 : (97 : Int32).toInt = 97 := rfl
      have c2 : (100 : Int32).toInt = 100 := rfl
      refine ⟨(T p).toInt.toNat - 97, by omega, ?_, fun q => by rw [q] at b1; exact absurd b1 (by decide)⟩
      rw [← pk_sub (show 97 ≤ (T p).toInt.toNat by omega), ← e]
      rfl
    · rw [if_neg b] at h ⊢
      by_cases d : 65 ≤ T p ∧ T p ≤ 68
      · rw [if_pos d]
        have b1 := d.1
        have b2 := d.2
        rw [i_le] at b1 b2
        have e : T p = nI (T p).toInt.toNat := by rw [i_eq, nI_toInt (by have : (68 : Int32).toInt = 68 := rfl; omega)]; have : (65 : Int32).toInt = 65 := rfl; omega
        have c1 : (65 : Int32).toInt = 65 := rfl
        have c2 : (68 : Int32).toInt = 68 := rfl
        refine ⟨(T p).toInt.toNat - 65 + 4, by omega, ?_, fun q => by rw [q] at b1; exact absurd b1 (by decide)⟩
        rw [← nI_add, ← pk_sub (show 65 ≤ (T p).toInt.toNat by omega), ← e]
        rfl
      · rw [if_neg d] at h; exact absurd rfl h
theorem pLt_lo {l : Nat} (h : l < 4) : pLt (nI l) = fun a _ => a l := by
  funext a b
  unfold pLt
  rw [if_pos (show nI l < 4 from nI_lt (b := 4) h (by decide)), nI_clamp (by omega)]
theorem pLt_hi {l : Nat} (h : 4 ≤ l) (h8 : l < 8) : pLt (nI l) = fun _ b => b (l - 4) := by
  funext a b
  unfold pLt
  rw [if_neg (show ¬ nI l < 4 from nI_nlt (b := 4) h (by omega)), show nI l - 4 = nI (l - 4) from pk_sub (b := 4) h, nI_clamp (by omega)]
theorem c_operand {T : Nat → Int32} {n p o u K : Nat} {al : Bool} {m : aM} (h : RS T n al m p o u) (hl : ¬ tL T p = -1) (hK : 1 ≤ K) :
    (al = true ∧ ¬ tL T p < 4 → Fl m (f_Rea_readOperand (tL T p) m) 1 p) ∧ (¬ (al = true ∧ ¬ tL T p < 4) → p < p + 1 ∧ Ok T n al m (f_Rea_readOperand (tL T p) m) p u (p + 1) o K (pLt (tL T p))) := by
  obtain ⟨l, l8, e, e1⟩ := tL_in hl
  have hp := h.1.1.lt (p := p) rfl e1
  have h4 := h.n4
  have g3 := h.2.2.2.2.2.2
  rw [e]
  unfold f_Rea_readOperand b_Rea_readOperand_18
  rw [h.2.2.2.1, h.2.1]
  simp only [o_let_eq, nI_1]
  have rs := h.at (q := p + 1) (by omega) (by omega)
  have ok : ∀ x y v, Cd (adO (a_st m 11 2 (nI (p + 1))) u x y 13) (adO (a_st m 11 2 (nI (p + 1))) u x y 14) u (u + 1) 1 v → Ok T n al m (o_b2 (f_Len_addOrder 12 x y (a_st m 11 2 (nI (p + 1)))) fun y2 m3 => some (1, m3)) p u (p + 1) o K v := fun x y v hv => by
    rw [c_add rs.2.2.2.2.1 (by omega), o_b2_some]
    refine ⟨_, u + 1, rfl, rs.ado (by omega), by omega, by omega, hv.mo hK, fun j hj => ⟨?_, ?_⟩, (Fr.rf.st (by simp [fR])).tr adO_fr⟩
    · rw [adO_13 (by omega)]; simp [a_rd]
    · rw [adO_14 (by omega)]; simp [a_rd]
  by_cases c : l < 4
  · have c1 : nI l < 4 := nI_lt (b := 4) c (by decide)
    simp only [c1, if_true, ite_self, not_true_eq_false, and_false, false_implies, not_false_eq_true, true_implies, true_and, Nat.lt_succ_self]
    rw [pLt_lo c]
    exact ok _ _ _ (Cd.lto c adO_o adO_a)
  · have c1 : ¬ nI l < 4 := nI_nlt (b := 4) (by omega) (by omega)
    cases al with
    | true =>
      simp only [c1, if_true, if_false, not_false_eq_true, and_self, true_implies, not_true_eq_false, false_implies, and_true, show ¬ (1 : Int32) = 0 by decide]
      exact Fl.mk2 h.2.1
    | false =>
      simp only [c1, if_false, Bool.false_eq_true, false_and, false_implies, not_false_eq_true, true_implies, true_and, if_true, Nat.lt_succ_self]
      rw [pLt_hi (by omega) l8, show nI l - 4 = nI (l - 4) from pk_sub (b := 4) (by omega)]
      exact ok _ _ _ (Cd.ltn (by omega) adO_o adO_a)
