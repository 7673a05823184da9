/-! THE CLASS'S READER reads what the functions of 50 say -/
theorem a_st_st {m : aM} {a i : Nat} {x y : Int32} : a_st (a_st m a i x) a i y = a_st m a i y := by
  funext b j
  by_cases h : b = a ∧ j = i <;> simp [a_st, h]
theorem a_st_id {m : aM} {a i : Nat} {x : Int32} (h : m a i = x) : a_st m a i x = m := by
  funext b j
  by_cases q : b = a ∧ j = i
  · rw [q.1, q.2, a_st_self, h]
  · rw [a_st_no q]
def TC (T : Nat → Int32) (n : Nat) (m : aM) : Prop := Tx T n ∧ m 11 1 = nI n ∧ ∀ j, j < n → m 1 j = T j
def fR : Nat → Nat → Prop := fun b j => (b = 11 ∧ (j = 2 ∨ j = 3 ∨ j = 6 ∨ j = 7)) ∨ (b = 12 ∧ j = 2) ∨ b = 13 ∨ b = 14
theorem TC.fr {T : Nat → Int32} {n : Nat} {m m' : aM} (h : TC T n m) (f : Fr fR m m') : TC T n m' := ⟨h.1, (f 11 1 (by simp [fR])).trans h.2.1, fun j hj => (f 1 j (by simp [fR])).trans (h.2.2 j hj)⟩
theorem c_byte {T : Nat → Int32} {n p : Nat} {m : aM} (h : TC T n m) (hp : p < 2 ^ 31) : f_Rea_byteAt (nI p) m = some (T p) := by
  have hn := h.1.1
  unfold f_Rea_byteAt
  rw [if_neg (nI_pos hp), h.2.1]
  by_cases c : p < n
  · rw [if_neg (nI_ge c (by omega)), if_neg (nI_400 (by omega)), inb_nI (show p < 400 by omega) (by decide), o_gd_t, nI_clamp hp, h.2.2 p c]
  · rw [if_pos (nI_le (by omega) (by omega)), h.1.2 p (by omega)]
theorem z_rng {α : Type} (x a b : Int32) (p q : α) : (if x < a then q else if b < x then q else p) = if a ≤ x ∧ x ≤ b then p else q := by
  by_cases h1 : x < a
  · rw [if_pos h1, if_neg (fun h => by rw [i_le, i_le] at h; rw [i_lt] at h1; omega)]
  · rw [if_neg h1]
    by_cases h2 : b < x
    · rw [if_pos h2, if_neg (fun h => by rw [i_le, i_le] at h; rw [i_lt] at h2; omega)]
    · rw [if_neg h2, if_pos (by rw [i_lt] at h1 h2; rw [i_le, i_le]; omega)]
theorem c_small (x : Int32) (m : aM) : f_Rea_isSmall x m = some (if tS x then 1 else 0) := by
  unfold f_Rea_isSmall
  rw [z_rng]
  show (if tS x then some 1 else some 0) = _
  by_cases h : tS x
  · rw [if_pos h, if_pos h]
  · rw [if_neg h, if_neg h]
theorem c_capital (x : Int32) (m : aM) : f_Rea_isCapital x m = some (if tC x then 1 else 0) := by
  unfold f_Rea_isCapital
  rw [z_rng]
  show (if tC x then some 1 else some 0) = _
  by_cases h : tC x
  · rw [if_pos h, if_pos h]
  · rw [if_neg h, if_neg h]
theorem c_digit (x : Int32) (m : aM) : f_Rea_isDigit x m = some (if tD x then 1 else 0) := by
  unfold f_Rea_isDigit
  rw [z_rng]
  show (if tD x then some 1 else some 0) = _
  by_cases h : tD x
  · rw [if_pos h, if_pos h]
  · rw [if_neg h, if_neg h]
theorem i_65 (x : Int32) : 4 + x - 65 = x - 65 + 4 := by
  rw [Int32.sub_eq_add_neg, Int32.sub_eq_add_neg, Int32.add_comm 4 x, Int32.add_assoc, Int32.add_assoc, Int32.add_comm 4]
theorem c_letter {T : Nat → Int32} {n p : Nat} {m : aM} (h : TC T n m) (hp : m 11 2 = nI p) (hn : p ≤ n) : f_Rea_letterHere m = some (tL T p) := by
  have h4 := h.1.1
  unfold f_Rea_letterHere b_Rea_letterHere_53 tL
  rw [hp, c_byte h (by omega), show nI p + 1 = nI (p + 1) from nI_1 p]
  simp only [o_b_some, c_byte h (show p + 1 < 2 ^ 31 by omega), c_small, c_capital, z_rng, i_65]
  by_cases a : tS (T (p + 1))
  · simp [a]
  · by_cases b : tC (T (p + 1))
    · simp [b]
    · simp only [a, b, if_false, if_true, or_self]
      by_cases c : 97 ≤ T p ∧ T p ≤ 100 <;> by_cases d : 65 ≤ T p ∧ T p ≤ 68 <;> simp [c, d]
theorem skip_eq (F : Nat) (k : Int32 → aM → Option (Int32 × aM)) (x : Int32) (m : aM) : lb_Rea_skipBlanks_2 F k x m = if 400 ≤ x then some (0, m) else o_b (f_Rea_byteAt (m 11 2) m) fun y => if y = 32 then o_let (a_st m 11 2 ((m 11 2) + 1)) fun m2 => k (x + 1) m2 else some (0, m) := by
  unfold lb_Rea_skipBlanks_2 f_Rea_byteAt
  by_cases a : (400 : Int32) ≤ x
  · rw [if_pos a, if_pos a]
  · rw [if_neg a, if_neg a]
    by_cases b : m 11 2 < 0
    · rw [if_pos b, if_pos b, o_b_some, if_neg (by decide)]
    · rw [if_neg b, if_neg b]
      by_cases c : m 11 1 ≤ m 11 2
      · rw [if_pos c, if_pos c, o_b_some, if_neg (by decide)]
      · rw [if_neg c, if_neg c]
        by_cases d : (400 : Int32) ≤ m 11 2
        · rw [if_pos d, if_pos d, o_b_some, if_neg (by decide)]
        · rw [if_neg d, if_neg d]
          cases inb (m 11 2) 400
          · rfl
          · rfl
theorem c_skip_aux {T : Nat → Int32} {n F : Nat} : ∀ (d t p M N : Nat) (m : aM), TC T n m → m 11 2 = nI p → p + d = n → t + d ≤ 400 → d < M → d < N → ll_Rea_skipBlanks_2 F N (nI t) m = some (0, a_st m 11 2 (nI (sk T M p)))
  | 0, t, p, M, N, m, h, hp, hd, ht, hM, hN => by
    obtain ⟨N, rfl⟩ : ∃ k, N = k + 1 := ⟨N - 1, by omega⟩
    obtain ⟨M, rfl⟩ : ∃ k, M = k + 1 := ⟨M - 1, by omega⟩
    have h4 := h.1.1
    have hT : T p = -1 := h.1.2 p (by omega)
    show lb_Rea_skipBlanks_2 F (ll_Rea_skipBlanks_2 F N) (nI t) m = _
    rw [skip_eq]
    unfold sk
    simp only [hp, c_byte h (show p < 2 ^ 31 by omega), o_b_some, hT, show ¬ (-1 : Int32) = 32 by decide, if_false, ite_self, a_st_id hp]
  | d + 1, t, p, M, N, m, h, hp, hd, ht, hM, hN => by
    obtain ⟨N, rfl⟩ : ∃ k, N = k + 1 := ⟨N - 1, by omega⟩
    obtain ⟨M, rfl⟩ : ∃ k, M = k + 1 := ⟨M - 1, by omega⟩
    have h4 := h.1.1
    show lb_Rea_skipBlanks_2 F (ll_Rea_skipBlanks_2 F N) (nI t) m = _
    rw [skip_eq]
    unfold sk
    simp only [hp, c_byte h (show p < 2 ^ 31 by omega), o_b_some, o_let_eq, if_neg (nI_400 (show t < 400 by omega))]
    by_cases c : T p = 32
    · simp only [if_pos c, nI_1]
      rw [c_skip_aux d (t + 1) (p + 1) M N _ (h.fr (Fr.rf.st (by simp [fR]))) a_st_self (by omega) (by omega) (by omega) (by omega), a_st_st]
    · simp only [if_neg c, a_st_id hp]
theorem c_skip {T : Nat → Int32} {n p F : Nat} {m : aM} (h : TC T n m) (hp : m 11 2 = nI p) (hn : p ≤ n) (hF : 401 ≤ F) : f_Rea_skipBlanks F m = some (0, a_st m 11 2 (nI (kp T p))) := by
  have h4 := h.1.1
  exact c_skip_aux (n - p) 0 p 401 F m h hp (by omega) (by omega) (by omega) (by omega)
theorem c_fail {k : Int32} {m : aM} : f_Rea_fail k m = some (0, a_st (a_st m 11 6 k) 11 7 (m 11 2)) := by
  unfold f_Rea_fail
  simp only [o_let_eq]
  rw [a_st_no (by decide)]
def Wd (w : Nat) (L : List Int32) : Prop := sLen w = nI L.length ∧ a_len.getD w 0 = L.length ∧ ∀ i, i < L.length → sCh w i = L.getD i 0
theorem c_word_aux {T : Nat → Int32} {n F w p : Nat} {L : List Int32} {m : aM} (hw : Wd w L) (h : TC T n m) (hp : m 11 2 = nI p) (hn : p ≤ n) (hL : L.length < 100) : ∀ (d i N : Nat), i + d = L.length → d < N → ll_Rea_isWord_2 F N w (nI i) m = some (if tW T (p + i) (L.drop i) = true then 1 else 0)
  | 0, i, N, hd, hN => by
    obtain ⟨N, rfl⟩ : ∃ k, N = k + 1 := ⟨N - 1, by omega⟩
    have h4 := h.1.1
    obtain rfl : i = L.length := by omega
    show lb_Rea_isWord_2 F (ll_Rea_isWord_2 F N) w (nI L.length) m = _
    unfold lb_Rea_isWord_2
    simp only [hw.1, if_pos (nI_le (Nat.le_refl L.length) (show L.length < 2 ^ 31 by omega)), hp, nI_add, c_byte h (show p + L.length < 2 ^ 31 by omega), o_b_some, c_small, List.drop_length, tW]
    by_cases c : tS (T (p + L.length)) <;> simp [c]
  | d + 1, i, N, hd, hN => by
    obtain ⟨N, rfl⟩ : ∃ k, N = k + 1 := ⟨N - 1, by omega⟩
    have h4 := h.1.1
    have hi : i < L.length := by omega
    show lb_Rea_isWord_2 F (ll_Rea_isWord_2 F N) w (nI i) m = _
    unfold lb_Rea_isWord_2
    rw [List.drop_eq_getElem_cons hi]
    simp only [hw.1, if_neg (nI_ge hi (show L.length < 2 ^ 31 by omega)), hp, nI_add, c_byte h (show p + i < 2 ^ 31 by omega), o_b_some, hw.2.1, inb_nI hi (by omega), o_gd_t, nI_clamp (show i < 2 ^ 31 by omega), hw.2.2 i hi, tW, nI_1, c_word_aux hw h hp hn hL d (i + 1) N (by omega) (by omega), Nat.add_assoc]
    have : L.getD i 0 = L[i] := by simp [List.getD, hi]
    rw [this]
    by_cases c : T (p + i) = L[i] <;> simp [c]
theorem c_word {T : Nat → Int32} {n F w p : Nat} {L : List Int32} {m : aM} (hw : Wd w L) (h : TC T n m) (hp : m 11 2 = nI p) (hn : p ≤ n) (hL : L.length < 100) (hF : 401 ≤ F) : f_Rea_isWord F w m = some (if tW T p L = true then 1 else 0) := c_word_aux hw h hp hn hL L.length 0 F (by omega) (by omega)
theorem wd_keep : Wd 2 wKeep := ⟨by decide +kernel, by decide +kernel, by decide +kernel⟩
theorem wd_law : Wd 3 wLaw := ⟨by decide +kernel, by decide +kernel, by decide +kernel⟩
theorem wd_not : Wd 4 wNot := ⟨by decide +kernel, by decide +kernel, by decide +kernel⟩
theorem wd_least : Wd 5 wLeast := ⟨by decide +kernel, by decide +kernel, by decide +kernel⟩
theorem wd_most : Wd 6 wMost := ⟨by decide +kernel, by decide +kernel, by decide +kernel⟩
theorem wd_if : Wd 7 wIf := ⟨by decide +kernel, by decide +kernel, by decide +kernel⟩
theorem wd_and : Wd 8 wAnd := ⟨by decide +kernel, by decide +kernel, by decide +kernel⟩
theorem wd_or : Wd 9 wOr := ⟨by decide +kernel, by decide +kernel, by decide +kernel⟩
theorem c_isSign {T : Nat → Int32} {n p F : Nat} {c : Int32} {m : aM} (h : TC T n m) (hp : m 11 2 = nI p) (hn : p ≤ n) (hF : 401 ≤ F) : f_Rea_isSign F c m = some (if T (kp T p) = c then 1 else 0, a_st m 11 2 (nI (kp T p))) := by
  have h4 := h.1.1
  have hk := kp_le h.1 hn
  unfold f_Rea_isSign
  simp only [c_skip h hp hn hF, o_b2_some, a_st_self, c_byte (h.fr (Fr.rf.st (show fR 11 2 by simp [fR]))) (show kp T p < 2 ^ 31 by omega), o_b_some]
  by_cases c : T (kp T p) = c <;> simp [c]
/-- the state of the reader -/
def RS (T : Nat → Int32) (n : Nat) (al : Bool) (m : aM) (p o u : Nat) : Prop := TC T n m ∧ m 11 2 = nI p ∧ m 11 3 = nI o ∧ m 11 4 = (if al = true then 1 else 0) ∧ m 12 2 = nI u ∧ p ≤ n ∧ u ≤ p
def Fl (m : aM) (r : Option (Int32 × aM)) (k : Int32) (q : Nat) : Prop := ∃ m', r = some (0, m') ∧ m' 11 6 = k ∧ m' 11 7 = nI q ∧ Fr fR m m'
theorem Fl.tr {m m1 : aM} {r : Option (Int32 × aM)} {k : Int32} {q : Nat} (f : Fr fR m m1) (h : Fl m1 r k q) : Fl m r k q := by
  obtain ⟨m', e, h1, h2, h3⟩ := h
  exact ⟨m', e, h1, h2, f.tr h3⟩
theorem Fl.mk {m : aM} {k : Int32} {q : Nat} (h : m 11 2 = nI q) : Fl m (f_Rea_fail k m) k q := ⟨_, c_fail, by simp [a_rd], by simp [a_rd, h], (Fr.rf.st (by simp [fR])).st (by simp [fR])⟩
/-- failing, with the test of a boolean behind it -/
theorem Fl.mk2 {m : aM} {k : Int32} {q : Nat} (h : m 11 2 = nI q) : Fl m (o_b2 (f_Rea_fail k m) fun y m2 => o_gd (isb y) <| some (y, m2)) k q := by
  rw [c_fail]
  exact ⟨_, rfl, by simp [a_rd], by simp [a_rd, h], (Fr.rf.st (by simp [fR])).st (by simp [fR])⟩
def Ok (T : Nat → Int32) (n : Nat) (al : Bool) (m : aM) (r : Option (Int32 × aM)) (p0 u0 q o K : Nat) (v : pV) : Prop := ∃ m' u', r = some (1, m') ∧ RS T n al m' q o u' ∧ u0 < u' ∧ u' + p0 ≤ u0 + q ∧ Cd (m' 13) (m' 14) u0 u' K v ∧ (∀ j, j < u0 → m' 13 j = m 13 j ∧ m' 14 j = m 14 j) ∧ Fr fR m m'
def CR (T : Nat → Int32) (n : Nat) (al : Bool) (f : aM → Option (Int32 × aM)) (X : Nat → pO pV) (o K : Nat) : Prop := ∀ m p u, RS T n al m p o u → (∀ k q, X p = .inl (k, q) → Fl m (f m) k q) ∧ (∀ q v, X p = .inr (q, v) → p < q ∧ Ok T n al m (f m) p u q o K v)
theorem RS.at {T : Nat → Int32} {n : Nat} {al : Bool} {m : aM} {p o u : Nat} (h : RS T n al m p o u) {q : Nat} (hq : q ≤ n) (hu : u ≤ q) : RS T n al (a_st m 11 2 (nI q)) q o u := ⟨h.1.fr (Fr.rf.st (by simp [fR])), a_st_self, by rw [a_st_no (by decide)]; exact h.2.2.1, by rw [a_st_no (by decide)]; exact h.2.2.2.1, by rw [a_st_no (by decide)]; exact h.2.2.2.2.1, hq, hu⟩
theorem RS.op {T : Nat → Int32} {n : Nat} {al : Bool} {m : aM} {p o u : Nat} (h : RS T n al m p o u) (o' : Nat) : RS T n al (a_st m 11 3 (nI o')) p o' u := ⟨h.1.fr (Fr.rf.st (by simp [fR])), by rw [a_st_no (by decide)]; exact h.2.1, a_st_self, by rw [a_st_no (by decide)]; exact h.2.2.2.1, by rw [a_st_no (by decide)]; exact h.2.2.2.2.1, h.2.2.2.2.2⟩
/-- one more order -/
def adO (m : aM) (u : Nat) (x y : Int32) : aM := a_st (a_st (a_st m 13 u x) 14 u y) 12 2 (nI (u + 1))
theorem c_add {m : aM} {u : Nat} {x y : Int32} (h : m 12 2 = nI u) (hu : u < 400) : f_Len_addOrder 12 x y m = some (nI u, adO m u x y) := by
  unfold f_Len_addOrder adO
  simp only [o_let_eq, h, nI_lt (b := 400) hu (by decide), show nI u < 400 from nI_lt (b := 400) hu (by decide), if_true, inb_nI hu (by decide), o_gd_t, nI_clamp (show u < 2 ^ 31 by omega), a_rd, h, nI_1, nI_pred]
  simp [h, inb_nI hu (by decide), o_gd_t, nI_clamp (show u < 2 ^ 31 by omega), nI_1, nI_pred]
theorem adO_fr {m : aM} {u : Nat} {x y : Int32} : Fr fR m (adO m u x y) := ((Fr.rf.st (by simp [fR])).st (by simp [fR])).st (by simp [fR])
theorem adO_13 {m : aM} {u : Nat} {x y : Int32} {j : Nat} (h : j ≠ u) : adO m u x y 13 j = m 13 j := by simp [adO, a_rd, h]
theorem adO_14 {m : aM} {u : Nat} {x y : Int32} {j : Nat} (h : j ≠ u) : adO m u x y 14 j = m 14 j := by simp [adO, a_rd, h]
theorem adO_o {m : aM} {u : Nat} {x y : Int32} : adO m u x y 13 u = x := by simp [adO, a_rd]
theorem adO_a {m : aM} {u : Nat} {x y : Int32} : adO m u x y 14 u = y := by simp [adO, a_rd]
theorem RS.ado {T : Nat → Int32} {n : Nat} {al : Bool} {m : aM} {p o u : Nat} (h : RS T n al m p o u) {x y : Int32} (hu : u < p) : RS T n al (adO m u x y) p o (u + 1) := ⟨h.1.fr adO_fr, by rw [← h.2.1]; simp [adO, a_rd], by rw [← h.2.2.1]; simp [adO, a_rd], by rw [← h.2.2.2.1]; simp [adO, a_rd], by simp [adO, a_rd], h.2.2.2.2.2.1, hu⟩
