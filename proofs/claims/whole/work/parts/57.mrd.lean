/-! THE REFERENCE'S READER: bytes, blanks, letters, words -/
def TM (T : Nat → Int32) (n : Nat) (m : aM) : Prop := Tx T n ∧ m 242 2 = nI n ∧ ∀ j, j < n → (if m 242 17 = 0 then m 243 j else m 244 j) = T j
def fM : Nat → Nat → Prop := fun b j => b = 242 ∧ (j = 13 ∨ j = 14 ∨ j = 15 ∨ j = 16)
theorem TM.fr {T : Nat → Int32} {n : Nat} {m m' : aM} (h : TM T n m) (f : Fr fM m m') : TM T n m' := ⟨h.1, (f 242 2 (by simp [fM])).trans h.2.1, fun j hj => by rw [f 242 17 (by simp [fM]), f 243 j (by simp [fM]), f 244 j (by simp [fM])]; exact h.2.2 j hj⟩
theorem m_byte {T : Nat → Int32} {n p : Nat} {m : aM} (h : TM T n m) (hp : p < 2 ^ 31) : f_Mod_byteAt (nI p) m = some (T p) := by
  have hn := h.1.1
  unfold f_Mod_byteAt
  rw [h.2.1]
  by_cases c : p < n
  · rw [if_pos (nI_lt c (by omega)), inb_nI (show p < 400 by omega) (by decide), nI_clamp hp]
    have := h.2.2 p c
    by_cases w : m 242 17 = 0
    · rw [if_pos w] at this ⊢
      rw [o_gd_t, this]
    · rw [if_neg w] at this ⊢
      rw [o_gd_t, this]
  · rw [if_neg (nI_nlt (by omega) (by omega)), h.1.2 p (by omega)]
theorem m_blanks_aux {T : Nat → Int32} {n F : Nat} : ∀ (d p M N : Nat) (m : aM), TM T n m → m 242 13 = nI p → n ≤ p + d → p + d < 2 ^ 31 → d < M → d < N → ll_Mod_blanks_0 F N m = some (0, a_st m 242 13 (nI (sk T M p)))
  | 0, p, M, N, m, h, hp, hd, hb, hM, hN => by
    obtain ⟨N, rfl⟩ : ∃ k, N = k + 1 := ⟨N - 1, by omega⟩
    obtain ⟨M, rfl⟩ : ∃ k, M = k + 1 := ⟨M - 1, by omega⟩
    have hT : T p = -1 := h.1.2 p (by omega)
    show lb_Mod_blanks_0 F (ll_Mod_blanks_0 F N) m = _
    unfold lb_Mod_blanks_0 sk
    simp only [hp, m_byte h (show p < 2 ^ 31 by omega), o_b_some, hT, show ¬ (-1 : Int32) = 32 by decide, if_false, a_st_id hp]
  | d + 1, p, M, N, m, h, hp, hd, hb, hM, hN => by
    obtain ⟨N, rfl⟩ : ∃ k, N = k + 1 := ⟨N - 1, by omega⟩
    obtain ⟨M, rfl⟩ : ∃ k, M = k + 1 := ⟨M - 1, by omega⟩
    show lb_Mod_blanks_0 F (ll_Mod_blanks_0 F N) m = _
    unfold lb_Mod_blanks_0 sk
    simp only [hp, m_byte h (show p < 2 ^ 31 by omega), o_b_some, o_let_eq]
    by_cases c : T p = 32
    · simp only [if_pos c, nI_1]
      rw [m_blanks_aux d (p + 1) M N _ (h.fr (Fr.rf.st (by simp [fM]))) a_st_self (by omega) (by omega) (by omega) (by omega), a_st_st]
    · simp only [if_neg c, a_st_id hp]
theorem m_blanks {T : Nat → Int32} {n p F : Nat} {m : aM} (h : TM T n m) (hp : m 242 13 = nI p) (hb : p ≤ 5000) (hF : 401 ≤ F) : f_Mod_blanks F m = some (0, a_st m 242 13 (nI (kp T p))) := by
  have h4 := h.1.1
  exact m_blanks_aux (n - p) p 401 F m h hp (by omega) (by omega) (by omega) (by omega)
theorem m_small (x : Int32) (m : aM) : f_Mod_isSmall x m = some (if tS x then 1 else 0) := c_small x m
theorem m_digit (x : Int32) (m : aM) : f_Mod_isDigit x m = some (if tD x then 1 else 0) := c_digit x m
theorem m_isLetter (x : Int32) (m : aM) : f_Mod_isLetter x m = some (if tS x ∨ tC x then 1 else 0) := by
  unfold f_Mod_isLetter
  rw [m_small, o_b_some, z_rng]
  by_cases h : tS x
  · rw [if_pos h, if_neg (by decide), if_pos (Or.inl h)]
  · by_cases k : tC x
    · rw [if_neg h, if_pos rfl, if_pos k, if_pos (Or.inr k)]
    · rw [if_neg h, if_pos rfl, if_neg k, if_neg (fun q => q.elim h k)]
theorem kp_5000 {T : Nat → Int32} {n p : Nat} (h : Tx T n) (hp : p ≤ 5000) : kp T p ≤ 5000 := kp_leB h hp (by have := h.1; omega)
theorem m_letter {T : Nat → Int32} {n p F : Nat} {m : aM} (h : TM T n m) (hp : m 242 13 = nI p) (hb : p ≤ 5000) (hF : 401 ≤ F) : f_Mod_letterHere F m = some (tL T (kp T p), a_st m 242 13 (nI (kp T p))) := by
  have h5 := kp_5000 h.1 hb
  have h1 := h.fr (Fr.rf.st (x := nI (kp T p)) (show fM 242 13 by simp [fM]))
  unfold f_Mod_letterHere b_Mod_letterHere_50 tL
  simp only [m_blanks h hp hb hF, o_b2_some, a_st_self, nI_1, m_byte h1 (show kp T p < 2 ^ 31 by omega), m_byte h1 (show kp T p + 1 < 2 ^ 31 by omega), o_b_some, m_isLetter, z_rng]
  by_cases a : tS (T (kp T p + 1)) ∨ tC (T (kp T p + 1))
  · simp only [if_pos a, show ¬ (1 : Int32) = 0 by decide, if_false]
  · simp only [if_neg a, if_true]
    by_cases c : 97 ≤ T (kp T p) ∧ T (kp T p) ≤ 100 <;> by_cases d : 65 ≤ T (kp T p) ∧ T (kp T p) ≤ 68 <;> simp only [c, d, if_true, if_false] <;> simp
theorem tS_nat {x : Int32} (h : tS x) : ∃ t : Nat, x = nI t ∧ 97 ≤ t ∧ t ≤ 122 := by
  have h1 := h.1
  have h2 := h.2
  rw [i_le] at h1 h2
  have c1 : (97 : Int32).toInt = 97 := rfl
  have c2 : (122 : Int32).toInt = 122 := rfl
  exact ⟨x.toInt.toNat, by rw [i_eq, nI_toInt (by omega)]; omega, by omega, by omega⟩
theorem m_ww_ge {T : Nat → Int32} {n F q : Nat} {m : aM} (h : TM T n m) (hq : m 242 13 = nI q) : ∀ (d i N : Nat) (v : Int32), 6 ≤ i → n ≤ q + i + d → q + i + d < 2 ^ 31 → d < N → ll_Mod_wordHere_8 F N v (nI i) m = some (-1, m)
  | 0, i, N, v, h6, hd, hb, hN => by
    obtain ⟨N, rfl⟩ : ∃ k, N = k + 1 := ⟨N - 1, by omega⟩
    show lb_Mod_wordHere_8 F (ll_Mod_wordHere_8 F N) v (nI i) m = _
    unfold lb_Mod_wordHere_8
    simp only [hq, nI_add, m_byte h (show q + i < 2 ^ 31 by omega), o_b_some, m_small, h.1.2 (q + i) (by omega), if_neg (show ¬ tS (-1) by decide), if_true, if_neg (show ¬ nI i ≤ 5 from nI_ge (a := 5) (by omega) (by omega))]
  | d + 1, i, N, v, h6, hd, hb, hN => by
    obtain ⟨N, rfl⟩ : ∃ k, N = k + 1 := ⟨N - 1, by omega⟩
    show lb_Mod_wordHere_8 F (ll_Mod_wordHere_8 F N) v (nI i) m = _
    unfold lb_Mod_wordHere_8 b_Mod_wordHere_53
    simp only [hq, nI_add, m_byte h (show q + i < 2 ^ 31 by omega), o_b_some, m_small, if_neg (show ¬ nI i ≤ 5 from nI_ge (a := 5) (by omega) (by omega)), if_pos (show (5 : Int32) ≤ nI i from nI_le (a := 5) (by omega) (by omega)), nI_1]
    by_cases c : tS (T (q + i))
    · simp only [if_pos c, show ¬ (1 : Int32) = 0 by decide, if_false]
      exact m_ww_ge h hq d (i + 1) N v (by omega) (by omega) (by omega) (by omega)
    · simp only [if_neg c, if_true]
theorem m_ww_no {T : Nat → Int32} {n F q i N : Nat} {v : Int32} {m : aM} (h : TM T n m) (hq : m 242 13 = nI q) (hi : i ≤ 5) (hb : q ≤ 5000) (c : ¬ tS (T (q + i))) : ll_Mod_wordHere_8 F (N + 1) v (nI i) m = some (v, m) := by
  show lb_Mod_wordHere_8 F (ll_Mod_wordHere_8 F N) v (nI i) m = _
  unfold lb_Mod_wordHere_8
  simp only [hq, nI_add, m_byte h (show q + i < 2 ^ 31 by omega), o_b_some, m_small, if_neg c, if_true, if_pos (show nI i ≤ 5 from nI_le (b := 5) hi (by decide))]
theorem m_ww_yes {T : Nat → Int32} {n F q i N v t : Nat} {m : aM} (h : TM T n m) (hq : m 242 13 = nI q) (hi : i < 5) (hb : q ≤ 5000) (c : T (q + i) = nI t) (h1 : 97 ≤ t) (h2 : t ≤ 122) : ll_Mod_wordHere_8 F (N + 1) (nI v) (nI i) m = ll_Mod_wordHere_8 F N (nI (27 * v + t - 97 + 1)) (nI (i + 1)) m := by
  have s : tS (nI t) := ⟨nI_le (a := 97) h1 (by omega), nI_le (b := 122) h2 (by decide)⟩
  show lb_Mod_wordHere_8 F (ll_Mod_wordHere_8 F N) (nI v) (nI i) m = _
  unfold lb_Mod_wordHere_8 b_Mod_wordHere_53
  simp only [hq, nI_add, m_byte h (show q + i < 2 ^ 31 by omega), o_b_some, m_small, c, if_pos s, show ¬ (1 : Int32) = 0 by decide, if_false, if_neg (show ¬ (5 : Int32) ≤ nI i from nI_ge (b := 5) hi (by decide)), o_let_eq, nI_1]
  have : (27 : Int32) * nI v + nI t - 97 + 1 = nI (27 * v + t - 97 + 1) := by
    rw [show (27 : Int32) = nI 27 from rfl, pk_mul, nI_add, show (97 : Int32) = nI 97 from rfl, pk_sub (by omega), nI_1]
  rw [this]
theorem wq_0 {T : Nat → Int32} {q : Nat}  (hn : ¬ tS (T (q + 0))) : (nI 0 = nI 6476969 ↔ tW T q wLeast = true) ∧ (nI 0 = nI 267347 ↔ tW T q wMost = true) ∧ (nI 0 = nI 249 ↔ tW T q wIf = true) ∧ (nI 0 = nI 10631 ↔ tW T q wNot = true) ∧ (nI 0 = nI 1111 ↔ tW T q wAnd = true) ∧ (nI 0 = nI 423 ↔ tW T q wOr = true) ∧ (nI 0 = nI 220309 ↔ tW T q wKeep = true) ∧ (nI 0 = nI 8798 ↔ tW T q wLaw = true) := by
  refine ⟨?_, ?_, ?_, ?_, ?_, ?_, ?_, ?_⟩
  · simp only [tW, Bool.and_eq_true, decide_eq_true_eq, Bool.not_eq_true', decide_eq_false_iff_not, Nat.add_assoc, Nat.reduceAdd]
    refine ⟨fun e => ?_, fun e => ?_⟩
    · rw [nI_eq (by omega) (by decide)] at e
      exact absurd e (by omega)
    · obtain ⟨e0, e1, e2, e3, e4, en⟩ := e
      exact absurd (by rw [show T (q + 0) = 108 from e0]; decide) hn
  · simp only [tW, Bool.and_eq_true, decide_eq_true_eq, Bool.not_eq_true', decide_eq_false_iff_not, Nat.add_assoc, Nat.reduceAdd]
    refine ⟨fun e => ?_, fun e => ?_⟩
    · rw [nI_eq (by omega) (by decide)] at e
      exact absurd e (by omega)
    · obtain ⟨e0, e1, e2, e3, en⟩ := e
      exact absurd (by rw [show T (q + 0) = 109 from e0]; decide) hn
  · simp only [tW, Bool.and_eq_true, decide_eq_true_eq, Bool.not_eq_true', decide_eq_false_iff_not, Nat.add_assoc, Nat.reduceAdd]
    refine ⟨fun e => ?_, fun e => ?_⟩
    · rw [nI_eq (by omega) (by decide)] at e
      exact absurd e (by omega)
    · obtain ⟨e0, e1, en⟩ := e
      exact absurd (by rw [show T (q + 0) = 105 from e0]; decide) hn
  · simp only [tW, Bool.and_eq_true, decide_eq_true_eq, Bool.not_eq_true', decide_eq_false_iff_not, Nat.add_assoc, Nat.reduceAdd]
    refine ⟨fun e => ?_, fun e => ?_⟩
    · rw [nI_eq (by omega) (by decide)] at e
      exact absurd e (by omega)
    · obtain ⟨e0, e1, e2, en⟩ := e
      exact absurd (by rw [show T (q + 0) = 110 from e0]; decide) hn
  · simp only [tW, Bool.and_eq_true, decide_eq_true_eq, Bool.not_eq_true', decide_eq_false_iff_not, Nat.add_assoc, Nat.reduceAdd]
    refine ⟨fun e => ?_, fun e => ?_⟩
    · rw [nI_eq (by omega) (by decide)] at e
      exact absurd e (by omega)
    · obtain ⟨e0, e1, e2, en⟩ := e
      exact absurd (by rw [show T (q + 0) = 97 from e0]; decide) hn
  · simp only [tW, Bool.and_eq_true, decide_eq_true_eq, Bool.not_eq_true', decide_eq_false_iff_not, Nat.add_assoc, Nat.reduceAdd]
    refine ⟨fun e => ?_, fun e => ?_⟩
    · rw [nI_eq (by omega) (by decide)] at e
      exact absurd e (by omega)
    · obtain ⟨e0, e1, en⟩ := e
      exact absurd (by rw [show T (q + 0) = 111 from e0]; decide) hn
  · simp only [tW, Bool.and_eq_true, decide_eq_true_eq, Bool.not_eq_true', decide_eq_false_iff_not, Nat.add_assoc, Nat.reduceAdd]
    refine ⟨fun e => ?_, fun e => ?_⟩
    · rw [nI_eq (by omega) (by decide)] at e
      exact absurd e (by omega)
    · obtain ⟨e0, e1, e2, e3, en⟩ := e
      exact absurd (by rw [show T (q + 0) = 107 from e0]; decide) hn
  · simp only [tW, Bool.and_eq_true, decide_eq_true_eq, Bool.not_eq_true', decide_eq_false_iff_not, Nat.add_assoc, Nat.reduceAdd]
    refine ⟨fun e => ?_, fun e => ?_⟩
    · rw [nI_eq (by omega) (by decide)] at e
      exact absurd e (by omega)
    · obtain ⟨e0, e1, e2, en⟩ := e
      exact absurd (by rw [show T (q + 0) = 108 from e0]; decide) hn
theorem wq_1 {T : Nat → Int32} {q : Nat} {t0 : Nat} (h0 : T (q + 0) = nI t0) (a0 : 97 ≤ t0) (b0 : t0 ≤ 122) (hn : ¬ tS (T (q + 1))) : (nI (27 * 0 + t0 - 97 + 1) = nI 6476969 ↔ tW T q wLeast = true) ∧ (nI (27 * 0 + t0 - 97 + 1) = nI 267347 ↔ tW T q wMost = true) ∧ (nI (27 * 0 + t0 - 97 + 1) = nI 249 ↔ tW T q wIf = true) ∧ (nI (27 * 0 + t0 - 97 + 1) = nI 10631 ↔ tW T q wNot = true) ∧ (nI (27 * 0 + t0 - 97 + 1) = nI 1111 ↔ tW T q wAnd = true) ∧ (nI (27 * 0 + t0 - 97 + 1) = nI 423 ↔ tW T q wOr = true) ∧ (nI (27 * 0 + t0 - 97 + 1) = nI 220309 ↔ tW T q wKeep = true) ∧ (nI (27 * 0 + t0 - 97 + 1) = nI 8798 ↔ tW T q wLaw = true) := by
  have s0 : tS (T (q + 0)) := by rw [h0]; exact ⟨nI_le (a := 97) a0 (by omega), nI_le (b := 122) b0 (by decide)⟩
  refine ⟨?_, ?_, ?_, ?_, ?_, ?_, ?_, ?_⟩
  · simp only [tW, Bool.and_eq_true, decide_eq_true_eq, Bool.not_eq_true', decide_eq_false_iff_not, Nat.add_assoc, Nat.reduceAdd]
    refine ⟨fun e => ?_, fun e => ?_⟩
    · rw [nI_eq (by omega) (by decide)] at e
      exact absurd e (by omega)
    · obtain ⟨e0, e1, e2, e3, e4, en⟩ := e
      exact absurd (by rw [show T (q + 1) = 101 from e1]; decide) hn
  · simp only [tW, Bool.and_eq_true, decide_eq_true_eq, Bool.not_eq_true', decide_eq_false_iff_not, Nat.add_assoc, Nat.reduceAdd]
    refine ⟨fun e => ?_, fun e => ?_⟩
    · rw [nI_eq (by omega) (by decide)] at e
      exact absurd e (by omega)
    · obtain ⟨e0, e1, e2, e3, en⟩ := e
      exact absurd (by rw [show T (q + 1) = 111 from e1]; decide) hn
  · simp only [tW, Bool.and_eq_true, decide_eq_true_eq, Bool.not_eq_true', decide_eq_false_iff_not, Nat.add_assoc, Nat.reduceAdd]
    refine ⟨fun e => ?_, fun e => ?_⟩
    · rw [nI_eq (by omega) (by decide)] at e
      exact absurd e (by omega)
    · obtain ⟨e0, e1, en⟩ := e
      exact absurd (by rw [show T (q + 1) = 102 from e1]; decide) hn
  · simp only [tW, Bool.and_eq_true, decide_eq_true_eq, Bool.not_eq_true', decide_eq_false_iff_not, Nat.add_assoc, Nat.reduceAdd]
    refine ⟨fun e => ?_, fun e => ?_⟩
    · rw [nI_eq (by omega) (by decide)] at e
      exact absurd e (by omega)
    · obtain ⟨e0, e1, e2, en⟩ := e
      exact absurd (by rw [show T (q + 1) = 111 from e1]; decide) hn
  · simp only [tW, Bool.and_eq_true, decide_eq_true_eq, Bool.not_eq_true', decide_eq_false_iff_not, Nat.add_assoc, Nat.reduceAdd]
    refine ⟨fun e => ?_, fun e => ?_⟩
    · rw [nI_eq (by omega) (by decide)] at e
      exact absurd e (by omega)
    · obtain ⟨e0, e1, e2, en⟩ := e
      exact absurd (by rw [show T (q + 1) = 110 from e1]; decide) hn
  · simp only [tW, Bool.and_eq_true, decide_eq_true_eq, Bool.not_eq_true', decide_eq_false_iff_not, Nat.add_assoc, Nat.reduceAdd]
    refine ⟨fun e => ?_, fun e => ?_⟩
    · rw [nI_eq (by omega) (by decide)] at e
      exact absurd e (by omega)
    · obtain ⟨e0, e1, en⟩ := e
      exact absurd (by rw [show T (q + 1) = 114 from e1]; decide) hn
  · simp only [tW, Bool.and_eq_true, decide_eq_true_eq, Bool.not_eq_true', decide_eq_false_iff_not, Nat.add_assoc, Nat.reduceAdd]
    refine ⟨fun e => ?_, fun e => ?_⟩
    · rw [nI_eq (by omega) (by decide)] at e
      exact absurd e (by omega)
    · obtain ⟨e0, e1, e2, e3, en⟩ := e
      exact absurd (by rw [show T (q + 1) = 101 from e1]; decide) hn
  · simp only [tW, Bool.and_eq_true, decide_eq_true_eq, Bool.not_eq_true', decide_eq_false_iff_not, Nat.add_assoc, Nat.reduceAdd]
    refine ⟨fun e => ?_, fun e => ?_⟩
    · rw [nI_eq (by omega) (by decide)] at e
      exact absurd e (by omega)
    · obtain ⟨e0, e1, e2, en⟩ := e
      exact absurd (by rw [show T (q + 1) = 97 from e1]; decide) hn
theorem wq_2 {T : Nat → Int32} {q : Nat} {t0 : Nat} (h0 : T (q + 0) = nI t0) (a0 : 97 ≤ t0) (b0 : t0 ≤ 122) {t1 : Nat} (h1 : T (q + 1) = nI t1) (a1 : 97 ≤ t1) (b1 : t1 ≤ 122) (hn : ¬ tS (T (q + 2))) : (nI (27 * (27 * 0 + t0 - 97 + 1) + t1 - 97 + 1) = nI 6476969 ↔ tW T q wLeast = true) ∧ (nI (27 * (27 * 0 + t0 - 97 + 1) + t1 - 97 + 1) = nI 267347 ↔ tW T q wMost = true) ∧ (nI (27 * (27 * 0 + t0 - 97 + 1) + t1 - 97 + 1) = nI 249 ↔ tW T q wIf = true) ∧ (nI (27 * (27 * 0 + t0 - 97 + 1) + t1 - 97 + 1) = nI 10631 ↔ tW T q wNot = true) ∧ (nI (27 * (27 * 0 + t0 - 97 + 1) + t1 - 97 + 1) = nI 1111 ↔ tW T q wAnd = true) ∧ (nI (27 * (27 * 0 + t0 - 97 + 1) + t1 - 97 + 1) = nI 423 ↔ tW T q wOr = true) ∧ (nI (27 * (27 * 0 + t0 - 97 + 1) + t1 - 97 + 1) = nI 220309 ↔ tW T q wKeep = true) ∧ (nI (27 * (27 * 0 + t0 - 97 + 1) + t1 - 97 + 1) = nI 8798 ↔ tW T q wLaw = true) := by
  have s0 : tS (T (q + 0)) := by rw [h0]; exact ⟨nI_le (a := 97) a0 (by omega), nI_le (b := 122) b0 (by decide)⟩
  have s1 : tS (T (q + 1)) := by rw [h1]; exact ⟨nI_le (a := 97) a1 (by omega), nI_le (b := 122) b1 (by decide)⟩
  refine ⟨?_, ?_, ?_, ?_, ?_, ?_, ?_, ?_⟩
  · simp only [tW, Bool.and_eq_true, decide_eq_true_eq, Bool.not_eq_true', decide_eq_false_iff_not, Nat.add_assoc, Nat.reduceAdd]
    refine ⟨fun e => ?_, fun e => ?_⟩
    · rw [nI_eq (by omega) (by decide)] at e
      exact absurd e (by omega)
    · obtain ⟨e0, e1, e2, e3, e4, en⟩ := e
      exact absurd (by rw [show T (q + 2) = 97 from e2]; decide) hn
  · simp only [tW, Bool.and_eq_true, decide_eq_true_eq, Bool.not_eq_true', decide_eq_false_iff_not, Nat.add_assoc, Nat.reduceAdd]
    refine ⟨fun e => ?_, fun e => ?_⟩
    · rw [nI_eq (by omega) (by decide)] at e
      exact absurd e (by omega)
    · obtain ⟨e0, e1, e2, e3, en⟩ := e
      exact absurd (by rw [show T (q + 2) = 115 from e2]; decide) hn
  · simp only [tW, Bool.and_eq_true, decide_eq_true_eq, Bool.not_eq_true', decide_eq_false_iff_not, Nat.add_assoc, Nat.reduceAdd]
    refine ⟨fun e => ?_, fun e => ?_⟩
    · rw [nI_eq (by omega) (by decide)] at e
      have z0 : t0 = 105 := by omega
      have z1 : t1 = 102 := by omega
      exact ⟨by have := h0; rw [z0] at this; exact this, by have := h1; rw [z1] at this; exact this, hn⟩
    · obtain ⟨e0, e1, en⟩ := e
      have z0 : t0 = 105 := by have := h0.symm.trans (show T (q + 0) = nI 105 from e0); rwa [nI_eq (by omega) (by decide)] at this
      have z1 : t1 = 102 := by have := h1.symm.trans (show T (q + 1) = nI 102 from e1); rwa [nI_eq (by omega) (by decide)] at this
      rw [nI_eq (by omega) (by decide)]
      omega
  · simp only [tW, Bool.and_eq_true, decide_eq_true_eq, Bool.not_eq_true', decide_eq_false_iff_not, Nat.add_assoc, Nat.reduceAdd]
    refine ⟨fun e => ?_, fun e => ?_⟩
    · rw [nI_eq (by omega) (by decide)] at e
      exact absurd e (by omega)
    · obtain ⟨e0, e1, e2, en⟩ := e
      exact absurd (by rw [show T (q + 2) = 116 from e2]; decide) hn
  · simp only [tW, Bool.and_eq_true, decide_eq_true_eq, Bool.not_eq_true', decide_eq_false_iff_not, Nat.add_assoc, Nat.reduceAdd]
    refine ⟨fun e => ?_, fun e => ?_⟩
    · rw [nI_eq (by omega) (by decide)] at e
      exact absurd e (by omega)
    · obtain ⟨e0, e1, e2, en⟩ := e
      exact absurd (by rw [show T (q + 2) = 100 from e2]; decide) hn
  · simp only [tW, Bool.and_eq_true, decide_eq_true_eq, Bool.not_eq_true', decide_eq_false_iff_not, Nat.add_assoc, Nat.reduceAdd]
    refine ⟨fun e => ?_, fun e => ?_⟩
    · rw [nI_eq (by omega) (by decide)] at e
      have z0 : t0 = 111 := by omega
      have z1 : t1 = 114 := by omega
      exact ⟨by have := h0; rw [z0] at this; exact this, by have := h1; rw [z1] at this; exact this, hn⟩
    · obtain ⟨e0, e1, en⟩ := e
      have z0 : t0 = 111 := by have := h0.symm.trans (show T (q + 0) = nI 111 from e0); rwa [nI_eq (by omega) (by decide)] at this
      have z1 : t1 = 114 := by have := h1.symm.trans (show T (q + 1) = nI 114 from e1); rwa [nI_eq (by omega) (by decide)] at this
      rw [nI_eq (by omega) (by decide)]
      omega
  · simp only [tW, Bool.and_eq_true, decide_eq_true_eq, Bool.not_eq_true', decide_eq_false_iff_not, Nat.add_assoc, Nat.reduceAdd]
    refine ⟨fun e => ?_, fun e => ?_⟩
    · rw [nI_eq (by omega) (by decide)] at e
      exact absurd e (by omega)
    · obtain ⟨e0, e1, e2, e3, en⟩ := e
      exact absurd (by rw [show T (q + 2) = 101 from e2]; decide) hn
  · simp only [tW, Bool.and_eq_true, decide_eq_true_eq, Bool.not_eq_true', decide_eq_false_iff_not, Nat.add_assoc, Nat.reduceAdd]
    refine ⟨fun e => ?_, fun e => ?_⟩
    · rw [nI_eq (by omega) (by decide)] at e
      exact absurd e (by omega)
    · obtain ⟨e0, e1, e2, en⟩ := e
      exact absurd (by rw [show T (q + 2) = 119 from e2]; decide) hn
theorem wq_3 {T : Nat → Int32} {q : Nat} {t0 : Nat} (h0 : T (q + 0) = nI t0) (a0 : 97 ≤ t0) (b0 : t0 ≤ 122) {t1 : Nat} (h1 : T (q + 1) = nI t1) (a1 : 97 ≤ t1) (b1 : t1 ≤ 122) {t2 : Nat} (h2 : T (q + 2) = nI t2) (a2 : 97 ≤ t2) (b2 : t2 ≤ 122) (hn : ¬ tS (T (q + 3))) : (nI (27 * (27 * (27 * 0 + t0 - 97 + 1) + t1 - 97 + 1) + t2 - 97 + 1) = nI 6476969 ↔ tW T q wLeast = true) ∧ (nI (27 * (27 * (27 * 0 + t0 - 97 + 1) + t1 - 97 + 1) + t2 - 97 + 1) = nI 267347 ↔ tW T q wMost = true) ∧ (nI (27 * (27 * (27 * 0 + t0 - 97 + 1) + t1 - 97 + 1) + t2 - 97 + 1) = nI 249 ↔ tW T q wIf = true) ∧ (nI (27 * (27 * (27 * 0 + t0 - 97 + 1) + t1 - 97 + 1) + t2 - 97 + 1) = nI 10631 ↔ tW T q wNot = true) ∧ (nI (27 * (27 * (27 * 0 + t0 - 97 + 1) + t1 - 97 + 1) + t2 - 97 + 1) = nI 1111 ↔ tW T q wAnd = true) ∧ (nI (27 * (27 * (27 * 0 + t0 - 97 + 1) + t1 - 97 + 1) + t2 - 97 + 1) = nI 423 ↔ tW T q wOr = true) ∧ (nI (27 * (27 * (27 * 0 + t0 - 97 + 1) + t1 - 97 + 1) + t2 - 97 + 1) = nI 220309 ↔ tW T q wKeep = true) ∧ (nI (27 * (27 * (27 * 0 + t0 - 97 + 1) + t1 - 97 + 1) + t2 - 97 + 1) = nI 8798 ↔ tW T q wLaw = true) := by
  have s0 : tS (T (q + 0)) := by rw [h0]; exact ⟨nI_le (a := 97) a0 (by omega), nI_le (b := 122) b0 (by decide)⟩
  have s1 : tS (T (q + 1)) := by rw [h1]; exact ⟨nI_le (a := 97) a1 (by omega), nI_le (b := 122) b1 (by decide)⟩
  have s2 : tS (T (q + 2)) := by rw [h2]; exact ⟨nI_le (a := 97) a2 (by omega), nI_le (b := 122) b2 (by decide)⟩
  refine ⟨?_, ?_, ?_, ?_, ?_, ?_, ?_, ?_⟩
  · simp only [tW, Bool.and_eq_true, decide_eq_true_eq, Bool.not_eq_true', decide_eq_false_iff_not, Nat.add_assoc, Nat.reduceAdd]
    refine ⟨fun e => ?_, fun e => ?_⟩
    · rw [nI_eq (by omega) (by decide)] at e
      exact absurd e (by omega)
    · obtain ⟨e0, e1, e2, e3, e4, en⟩ := e
      exact absurd (by rw [show T (q + 3) = 115 from e3]; decide) hn
  · simp only [tW, Bool.and_eq_true, decide_eq_true_eq, Bool.not_eq_true', decide_eq_false_iff_not, Nat.add_assoc, Nat.reduceAdd]
    refine ⟨fun e => ?_, fun e => ?_⟩
    · rw [nI_eq (by omega) (by decide)] at e
      exact absurd e (by omega)
    · obtain ⟨e0, e1, e2, e3, en⟩ := e
      exact absurd (by rw [show T (q + 3) = 116 from e3]; decide) hn
  · simp only [tW, Bool.and_eq_true, decide_eq_true_eq, Bool.not_eq_true', decide_eq_false_iff_not, Nat.add_assoc, Nat.reduceAdd]
    refine ⟨fun e => ?_, fun e => ?_⟩
    · rw [nI_eq (by omega) (by decide)] at e
      exact absurd e (by omega)
    · obtain ⟨e0, e1, en⟩ := e
      exact absurd s2 en
  · simp only [tW, Bool.and_eq_true, decide_eq_true_eq, Bool.not_eq_true', decide_eq_false_iff_not, Nat.add_assoc, Nat.reduceAdd]
    refine ⟨fun e => ?_, fun e => ?_⟩
    · rw [nI_eq (by omega) (by decide)] at e
      have z0 : t0 = 110 := by omega
      have z1 : t1 = 111 := by omega
      have z2 : t2 = 116 := by omega
      exact ⟨by have := h0; rw [z0] at this; exact this, by have := h1; rw [z1] at this; exact this, by have := h2; rw [z2] at this; exact this, hn⟩
    · obtain ⟨e0, e1, e2, en⟩ := e
      have z0 : t0 = 110 := by have := h0.symm.trans (show T (q + 0) = nI 110 from e0); rwa [nI_eq (by omega) (by decide)] at this
      have z1 : t1 = 111 := by have := h1.symm.trans (show T (q + 1) = nI 111 from e1); rwa [nI_eq (by omega) (by decide)] at this
      have z2 : t2 = 116 := by have := h2.symm.trans (show T (q + 2) = nI 116 from e2); rwa [nI_eq (by omega) (by decide)] at this
      rw [nI_eq (by omega) (by decide)]
      omega
  · simp only [tW, Bool.and_eq_true, decide_eq_true_eq, Bool.not_eq_true', decide_eq_false_iff_not, Nat.add_assoc, Nat.reduceAdd]
    refine ⟨fun e => ?_, fun e => ?_⟩
    · rw [nI_eq (by omega) (by decide)] at e
      have z0 : t0 = 97 := by omega
      have z1 : t1 = 110 := by omega
      have z2 : t2 = 100 := by omega
      exact ⟨by have := h0; rw [z0] at this; exact this, by have := h1; rw [z1] at this; exact this, by have := h2; rw [z2] at this; exact this, hn⟩
    · obtain ⟨e0, e1, e2, en⟩ := e
      have z0 : t0 = 97 := by have := h0.symm.trans (show T (q + 0) = nI 97 from e0); rwa [nI_eq (by omega) (by decide)] at this
      have z1 : t1 = 110 := by have := h1.symm.trans (show T (q + 1) = nI 110 from e1); rwa [nI_eq (by omega) (by decide)] at this
      have z2 : t2 = 100 := by have := h2.symm.trans (show T (q + 2) = nI 100 from e2); rwa [nI_eq (by omega) (by decide)] at this
      rw [nI_eq (by omega) (by decide)]
      omega
  · simp only [tW, Bool.and_eq_true, decide_eq_true_eq, Bool.not_eq_true', decide_eq_false_iff_not, Nat.add_assoc, Nat.reduceAdd]
    refine ⟨fun e => ?_, fun e => ?_⟩
    · rw [nI_eq (by omega) (by decide)] at e
      exact absurd e (by omega)
    · obtain ⟨e0, e1, en⟩ := e
      exact absurd s2 en
  · simp only [tW, Bool.and_eq_true, decide_eq_true_eq, Bool.not_eq_true', decide_eq_false_iff_not, Nat.add_assoc, Nat.reduceAdd]
    refine ⟨fun e => ?_, fun e => ?_⟩
    · rw [nI_eq (by omega) (by decide)] at e
      exact absurd e (by omega)
    · obtain ⟨e0, e1, e2, e3, en⟩ := e
      exact absurd (by rw [show T (q + 3) = 112 from e3]; decide) hn
  · simp only [tW, Bool.and_eq_true, decide_eq_true_eq, Bool.not_eq_true', decide_eq_false_iff_not, Nat.add_assoc, Nat.reduceAdd]
    refine ⟨fun e => ?_, fun e => ?_⟩
    · rw [nI_eq (by omega) (by decide)] at e
      have z0 : t0 = 108 := by omega
      have z1 : t1 = 97 := by omega
      have z2 : t2 = 119 := by omega
      exact ⟨by have := h0; rw [z0] at this; exact this, by have := h1; rw [z1] at this; exact this, by have := h2; rw [z2] at this; exact this, hn⟩
    · obtain ⟨e0, e1, e2, en⟩ := e
      have z0 : t0 = 108 := by have := h0.symm.trans (show T (q + 0) = nI 108 from e0); rwa [nI_eq (by omega) (by decide)] at this
      have z1 : t1 = 97 := by have := h1.symm.trans (show T (q + 1) = nI 97 from e1); rwa [nI_eq (by omega) (by decide)] at this
      have z2 : t2 = 119 := by have := h2.symm.trans (show T (q + 2) = nI 119 from e2); rwa [nI_eq (by omega) (by decide)] at this
      rw [nI_eq (by omega) (by decide)]
      omega
theorem wq_4 {T : Nat → Int32} {q : Nat} {t0 : Nat} (h0 : T (q + 0) = nI t0) (a0 : 97 ≤ t0) (b0 : t0 ≤ 122) {t1 : Nat} (h1 : T (q + 1) = nI t1) (a1 : 97 ≤ t1) (b1 : t1 ≤ 122) {t2 : Nat} (h2 : T (q + 2) = nI t2) (a2 : 97 ≤ t2) (b2 : t2 ≤ 122) {t3 : Nat} (h3 : T (q + 3) = nI t3) (a3 : 97 ≤ t3) (b3 : t3 ≤ 122) (hn : ¬ tS (T (q + 4))) : (nI (27 * (27 * (27 * (27 * 0 + t0 - 97 + 1) + t1 - 97 + 1) + t2 - 97 + 1) + t3 - 97 + 1) = nI 6476969 ↔ tW T q wLeast = true) ∧ (nI (27 * (27 * (27 * (27 * 0 + t0 - 97 + 1) + t1 - 97 + 1) + t2 - 97 + 1) + t3 - 97 + 1) = nI 267347 ↔ tW T q wMost = true) ∧ (nI (27 * (27 * (27 * (27 * 0 + t0 - 97 + 1) + t1 - 97 + 1) + t2 - 97 + 1) + t3 - 97 + 1) = nI 249 ↔ tW T q wIf = true) ∧ (nI (27 * (27 * (27 * (27 * 0 + t0 - 97 + 1) + t1 - 97 + 1) + t2 - 97 + 1) + t3 - 97 + 1) = nI 10631 ↔ tW T q wNot = true) ∧ (nI (27 * (27 * (27 * (27 * 0 + t0 - 97 + 1) + t1 - 97 + 1) + t2 - 97 + 1) + t3 - 97 + 1) = nI 1111 ↔ tW T q wAnd = true) ∧ (nI (27 * (27 * (27 * (27 * 0 + t0 - 97 + 1) + t1 - 97 + 1) + t2 - 97 + 1) + t3 - 97 + 1) = nI 423 ↔ tW T q wOr = true) ∧ (nI (27 * (27 * (27 * (27 * 0 + t0 - 97 + 1) + t1 - 97 + 1) + t2 - 97 + 1) + t3 - 97 + 1) = nI 220309 ↔ tW T q wKeep = true) ∧ (nI (27 * (27 * (27 * (27 * 0 + t0 - 97 + 1) + t1 - 97 + 1) + t2 - 97 + 1) + t3 - 97 + 1) = nI 8798 ↔ tW T q wLaw = true) := by
  have s0 : tS (T (q + 0)) := by rw [h0]; exact ⟨nI_le (a := 97) a0 (by omega), nI_le (b := 122) b0 (by decide)⟩
  have s1 : tS (T (q + 1)) := by rw [h1]; exact ⟨nI_le (a := 97) a1 (by omega), nI_le (b := 122) b1 (by decide)⟩
  have s2 : tS (T (q + 2)) := by rw [h2]; exact ⟨nI_le (a := 97) a2 (by omega), nI_le (b := 122) b2 (by decide)⟩
  have s3 : tS (T (q + 3)) := by rw [h3]; exact ⟨nI_le (a := 97) a3 (by omega), nI_le (b := 122) b3 (by decide)⟩
  refine ⟨?_, ?_, ?_, ?_, ?_, ?_, ?_, ?_⟩
  · simp only [tW, Bool.and_eq_true, decide_eq_true_eq, Bool.not_eq_true', decide_eq_false_iff_not, Nat.add_assoc, Nat.reduceAdd]
    refine ⟨fun e => ?_, fun e => ?_⟩
    · rw [nI_eq (by omega) (by decide)] at e
      exact absurd e (by omega)
    · obtain ⟨e0, e1, e2, e3, e4, en⟩ := e
      exact absurd (by rw [show T (q + 4) = 116 from e4]; decide) hn
  · simp only [tW, Bool.and_eq_true, decide_eq_true_eq, Bool.not_eq_true', decide_eq_false_iff_not, Nat.add_assoc, Nat.reduceAdd]
    refine ⟨fun e => ?_, fun e => ?_⟩
    · rw [nI_eq (by omega) (by decide)] at e
      have z0 : t0 = 109 := by omega
      have z1 : t1 = 111 := by omega
      have z2 : t2 = 115 := by omega
      have z3 : t3 = 116 := by omega
      exact ⟨by have := h0; rw [z0] at this; exact this, by have := h1; rw [z1] at this; exact this, by have := h2; rw [z2] at this; exact this, by have := h3; rw [z3] at this; exact this, hn⟩
    · obtain ⟨e0, e1, e2, e3, en⟩ := e
      have z0 : t0 = 109 := by have := h0.symm.trans (show T (q + 0) = nI 109 from e0); rwa [nI_eq (by omega) (by decide)] at this
      have z1 : t1 = 111 := by have := h1.symm.trans (show T (q + 1) = nI 111 from e1); rwa [nI_eq (by omega) (by decide)] at this
      have z2 : t2 = 115 := by have := h2.symm.trans (show T (q + 2) = nI 115 from e2); rwa [nI_eq (by omega) (by decide)] at this
      have z3 : t3 = 116 := by have := h3.symm.trans (show T (q + 3) = nI 116 from e3); rwa [nI_eq (by omega) (by decide)] at this
      rw [nI_eq (by omega) (by decide)]
      omega
  · simp only [tW, Bool.and_eq_true, decide_eq_true_eq, Bool.not_eq_true', decide_eq_false_iff_not, Nat.add_assoc, Nat.reduceAdd]
    refine ⟨fun e => ?_, fun e => ?_⟩
    · rw [nI_eq (by omega) (by decide)] at e
      exact absurd e (by omega)
    · obtain ⟨e0, e1, en⟩ := e
      exact absurd s2 en
  · simp only [tW, Bool.and_eq_true, decide_eq_true_eq, Bool.not_eq_true', decide_eq_false_iff_not, Nat.add_assoc, Nat.reduceAdd]
    refine ⟨fun e => ?_, fun e => ?_⟩
    · rw [nI_eq (by omega) (by decide)] at e
      exact absurd e (by omega)
    · obtain ⟨e0, e1, e2, en⟩ := e
      exact absurd s3 en
  · simp only [tW, Bool.and_eq_true, decide_eq_true_eq, Bool.not_eq_true', decide_eq_false_iff_not, Nat.add_assoc, Nat.reduceAdd]
    refine ⟨fun e => ?_, fun e => ?_⟩
    · rw [nI_eq (by omega) (by decide)] at e
      exact absurd e (by omega)
    · obtain ⟨e0, e1, e2, en⟩ := e
      exact absurd s3 en
  · simp only [tW, Bool.and_eq_true, decide_eq_true_eq, Bool.not_eq_true', decide_eq_false_iff_not, Nat.add_assoc, Nat.reduceAdd]
    refine ⟨fun e => ?_, fun e => ?_⟩
    · rw [nI_eq (by omega) (by decide)] at e
      exact absurd e (by omega)
    · obtain ⟨e0, e1, en⟩ := e
      exact absurd s2 en
  · simp only [tW, Bool.and_eq_true, decide_eq_true_eq, Bool.not_eq_true', decide_eq_false_iff_not, Nat.add_assoc, Nat.reduceAdd]
    refine ⟨fun e => ?_, fun e => ?_⟩
    · rw [nI_eq (by omega) (by decide)] at e
      have z0 : t0 = 107 := by omega
      have z1 : t1 = 101 := by omega
      have z2 : t2 = 101 := by omega
      have z3 : t3 = 112 := by omega
      exact ⟨by have := h0; rw [z0] at this; exact this, by have := h1; rw [z1] at this; exact this, by have := h2; rw [z2] at this; exact this, by have := h3; rw [z3] at this; exact this, hn⟩
    · obtain ⟨e0, e1, e2, e3, en⟩ := e
      have z0 : t0 = 107 := by have := h0.symm.trans (show T (q + 0) = nI 107 from e0); rwa [nI_eq (by omega) (by decide)] at this
      have z1 : t1 = 101 := by have := h1.symm.trans (show T (q + 1) = nI 101 from e1); rwa [nI_eq (by omega) (by decide)] at this
      have z2 : t2 = 101 := by have := h2.symm.trans (show T (q + 2) = nI 101 from e2); rwa [nI_eq (by omega) (by decide)] at this
      have z3 : t3 = 112 := by have := h3.symm.trans (show T (q + 3) = nI 112 from e3); rwa [nI_eq (by omega) (by decide)] at this
      rw [nI_eq (by omega) (by decide)]
      omega
  · simp only [tW, Bool.and_eq_true, decide_eq_true_eq, Bool.not_eq_true', decide_eq_false_iff_not, Nat.add_assoc, Nat.reduceAdd]
    refine ⟨fun e => ?_, fun e => ?_⟩
    · rw [nI_eq (by omega) (by decide)] at e
      exact absurd e (by omega)
    · obtain ⟨e0, e1, e2, en⟩ := e
      exact absurd s3 en
theorem wq_5 {T : Nat → Int32} {q : Nat} {t0 : Nat} (h0 : T (q + 0) = nI t0) (a0 : 97 ≤ t0) (b0 : t0 ≤ 122) {t1 : Nat} (h1 : T (q + 1) = nI t1) (a1 : 97 ≤ t1) (b1 : t1 ≤ 122) {t2 : Nat} (h2 : T (q + 2) = nI t2) (a2 : 97 ≤ t2) (b2 : t2 ≤ 122) {t3 : Nat} (h3 : T (q + 3) = nI t3) (a3 : 97 ≤ t3) (b3 : t3 ≤ 122) {t4 : Nat} (h4 : T (q + 4) = nI t4) (a4 : 97 ≤ t4) (b4 : t4 ≤ 122) (hn : ¬ tS (T (q + 5))) : (nI (27 * (27 * (27 * (27 * (27 * 0 + t0 - 97 + 1) + t1 - 97 + 1) + t2 - 97 + 1) + t3 - 97 + 1) + t4 - 97 + 1) = nI 6476969 ↔ tW T q wLeast = true) ∧ (nI (27 * (27 * (27 * (27 * (27 * 0 + t0 - 97 + 1) + t1 - 97 + 1) + t2 - 97 + 1) + t3 - 97 + 1) + t4 - 97 + 1) = nI 267347 ↔ tW T q wMost = true) ∧ (nI (27 * (27 * (27 * (27 * (27 * 0 + t0 - 97 + 1) + t1 - 97 + 1) + t2 - 97 + 1) + t3 - 97 + 1) + t4 - 97 + 1) = nI 249 ↔ tW T q wIf = true) ∧ (nI (27 * (27 * (27 * (27 * (27 * 0 + t0 - 97 + 1) + t1 - 97 + 1) + t2 - 97 + 1) + t3 - 97 + 1) + t4 - 97 + 1) = nI 10631 ↔ tW T q wNot = true) ∧ (nI (27 * (27 * (27 * (27 * (27 * 0 + t0 - 97 + 1) + t1 - 97 + 1) + t2 - 97 + 1) + t3 - 97 + 1) + t4 - 97 + 1) = nI 1111 ↔ tW T q wAnd = true) ∧ (nI (27 * (27 * (27 * (27 * (27 * 0 + t0 - 97 + 1) + t1 - 97 + 1) + t2 - 97 + 1) + t3 - 97 + 1) + t4 - 97 + 1) = nI 423 ↔ tW T q wOr = true) ∧ (nI (27 * (27 * (27 * (27 * (27 * 0 + t0 - 97 + 1) + t1 - 97 + 1) + t2 - 97 + 1) + t3 - 97 + 1) + t4 - 97 + 1) = nI 220309 ↔ tW T q wKeep = true) ∧ (nI (27 * (27 * (27 * (27 * (27 * 0 + t0 - 97 + 1) + t1 - 97 + 1) + t2 - 97 + 1) + t3 - 97 + 1) + t4 - 97 + 1) = nI 8798 ↔ tW T q wLaw = true) := by
  have s0 : tS (T (q + 0)) := by rw [h0]; exact ⟨nI_le (a := 97) a0 (by omega), nI_le (b := 122) b0 (by decide)⟩
  have s1 : tS (T (q + 1)) := by rw [h1]; exact ⟨nI_le (a := 97) a1 (by omega), nI_le (b := 122) b1 (by decide)⟩
  have s2 : tS (T (q + 2)) := by rw [h2]; exact ⟨nI_le (a := 97) a2 (by omega), nI_le (b := 122) b2 (by decide)⟩
  have s3 : tS (T (q + 3)) := by rw [h3]; exact ⟨nI_le (a := 97) a3 (by omega), nI_le (b := 122) b3 (by decide)⟩
  have s4 : tS (T (q + 4)) := by rw [h4]; exact ⟨nI_le (a := 97) a4 (by omega), nI_le (b := 122) b4 (by decide)⟩
  refine ⟨?_, ?_, ?_, ?_, ?_, ?_, ?_, ?_⟩
  · simp only [tW, Bool.and_eq_true, decide_eq_true_eq, Bool.not_eq_true', decide_eq_false_iff_not, Nat.add_assoc, Nat.reduceAdd]
    refine ⟨fun e => ?_, fun e => ?_⟩
    · rw [nI_eq (by omega) (by decide)] at e
      have z0 : t0 = 108 := by omega
      have z1 : t1 = 101 := by omega
      have z2 : t2 = 97 := by omega
      have z3 : t3 = 115 := by omega
      have z4 : t4 = 116 := by omega
      exact ⟨by have := h0; rw [z0] at this; exact this, by have := h1; rw [z1] at this; exact this, by have := h2; rw [z2] at this; exact this, by have := h3; rw [z3] at this; exact this, by have := h4; rw [z4] at this; exact this, hn⟩
    · obtain ⟨e0, e1, e2, e3, e4, en⟩ := e
      have z0 : t0 = 108 := by have := h0.symm.trans (show T (q + 0) = nI 108 from e0); rwa [nI_eq (by omega) (by decide)] at this
      have z1 : t1 = 101 := by have := h1.symm.trans (show T (q + 1) = nI 101 from e1); rwa [nI_eq (by omega) (by decide)] at this
      have z2 : t2 = 97 := by have := h2.symm.trans (show T (q + 2) = nI 97 from e2); rwa [nI_eq (by omega) (by decide)] at this
      have z3 : t3 = 115 := by have := h3.symm.trans (show T (q + 3) = nI 115 from e3); rwa [nI_eq (by omega) (by decide)] at this
      have z4 : t4 = 116 := by have := h4.symm.trans (show T (q + 4) = nI 116 from e4); rwa [nI_eq (by omega) (by decide)] at this
      rw [nI_eq (by omega) (by decide)]
      omega
  · simp only [tW, Bool.and_eq_true, decide_eq_true_eq, Bool.not_eq_true', decide_eq_false_iff_not, Nat.add_assoc, Nat.reduceAdd]
    refine ⟨fun e => ?_, fun e => ?_⟩
    · rw [nI_eq (by omega) (by decide)] at e
      exact absurd e (by omega)
    · obtain ⟨e0, e1, e2, e3, en⟩ := e
      exact absurd s4 en
  · simp only [tW, Bool.and_eq_true, decide_eq_true_eq, Bool.not_eq_true', decide_eq_false_iff_not, Nat.add_assoc, Nat.reduceAdd]
    refine ⟨fun e => ?_, fun e => ?_⟩
    · rw [nI_eq (by omega) (by decide)] at e
      exact absurd e (by omega)
    · obtain ⟨e0, e1, en⟩ := e
      exact absurd s2 en
  · simp only [tW, Bool.and_eq_true, decide_eq_true_eq, Bool.not_eq_true', decide_eq_false_iff_not, Nat.add_assoc, Nat.reduceAdd]
    refine ⟨fun e => ?_, fun e => ?_⟩
    · rw [nI_eq (by omega) (by decide)] at e
      exact absurd e (by omega)
    · obtain ⟨e0, e1, e2, en⟩ := e
      exact absurd s3 en
  · simp only [tW, Bool.and_eq_true, decide_eq_true_eq, Bool.not_eq_true', decide_eq_false_iff_not, Nat.add_assoc, Nat.reduceAdd]
    refine ⟨fun e => ?_, fun e => ?_⟩
    · rw [nI_eq (by omega) (by decide)] at e
      exact absurd e (by omega)
    · obtain ⟨e0, e1, e2, en⟩ := e
      exact absurd s3 en
  · simp only [tW, Bool.and_eq_true, decide_eq_true_eq, Bool.not_eq_true', decide_eq_false_iff_not, Nat.add_assoc, Nat.reduceAdd]
    refine ⟨fun e => ?_, fun e => ?_⟩
    · rw [nI_eq (by omega) (by decide)] at e
      exact absurd e (by omega)
    · obtain ⟨e0, e1, en⟩ := e
      exact absurd s2 en
  · simp only [tW, Bool.and_eq_true, decide_eq_true_eq, Bool.not_eq_true', decide_eq_false_iff_not, Nat.add_assoc, Nat.reduceAdd]
    refine ⟨fun e => ?_, fun e => ?_⟩
    · rw [nI_eq (by omega) (by decide)] at e
      exact absurd e (by omega)
    · obtain ⟨e0, e1, e2, e3, en⟩ := e
      exact absurd s4 en
  · simp only [tW, Bool.and_eq_true, decide_eq_true_eq, Bool.not_eq_true', decide_eq_false_iff_not, Nat.add_assoc, Nat.reduceAdd]
    refine ⟨fun e => ?_, fun e => ?_⟩
    · rw [nI_eq (by omega) (by decide)] at e
      exact absurd e (by omega)
    · obtain ⟨e0, e1, e2, en⟩ := e
      exact absurd s3 en
theorem wq_6 {T : Nat → Int32} {q : Nat} (s0 : tS (T (q + 0))) (s1 : tS (T (q + 1))) (s2 : tS (T (q + 2))) (s3 : tS (T (q + 3))) (s4 : tS (T (q + 4))) (s5 : tS (T (q + 5))) : ((-1 : Int32) = nI 6476969 ↔ tW T q wLeast = true) ∧ ((-1 : Int32) = nI 267347 ↔ tW T q wMost = true) ∧ ((-1 : Int32) = nI 249 ↔ tW T q wIf = true) ∧ ((-1 : Int32) = nI 10631 ↔ tW T q wNot = true) ∧ ((-1 : Int32) = nI 1111 ↔ tW T q wAnd = true) ∧ ((-1 : Int32) = nI 423 ↔ tW T q wOr = true) ∧ ((-1 : Int32) = nI 220309 ↔ tW T q wKeep = true) ∧ ((-1 : Int32) = nI 8798 ↔ tW T q wLaw = true) := by
  refine ⟨?_, ?_, ?_, ?_, ?_, ?_, ?_, ?_⟩
  · simp only [tW, Bool.and_eq_true, decide_eq_true_eq, Bool.not_eq_true', decide_eq_false_iff_not, Nat.add_assoc, Nat.reduceAdd]
    refine ⟨fun e => ?_, fun e => ?_⟩
    · exact absurd e (by decide)
    · obtain ⟨e0, e1, e2, e3, e4, en⟩ := e
      exact absurd s5 en
  · simp only [tW, Bool.and_eq_true, decide_eq_true_eq, Bool.not_eq_true', decide_eq_false_iff_not, Nat.add_assoc, Nat.reduceAdd]
    refine ⟨fun e => ?_, fun e => ?_⟩
    · exact absurd e (by decide)
    · obtain ⟨e0, e1, e2, e3, en⟩ := e
      exact absurd s4 en
  · simp only [tW, Bool.and_eq_true, decide_eq_true_eq, Bool.not_eq_true', decide_eq_false_iff_not, Nat.add_assoc, Nat.reduceAdd]
    refine ⟨fun e => ?_, fun e => ?_⟩
    · exact absurd e (by decide)
    · obtain ⟨e0, e1, en⟩ := e
      exact absurd s2 en
  · simp only [tW, Bool.and_eq_true, decide_eq_true_eq, Bool.not_eq_true', decide_eq_false_iff_not, Nat.add_assoc, Nat.reduceAdd]
    refine ⟨fun e => ?_, fun e => ?_⟩
    · exact absurd e (by decide)
    · obtain ⟨e0, e1, e2, en⟩ := e
      exact absurd s3 en
  · simp only [tW, Bool.and_eq_true, decide_eq_true_eq, Bool.not_eq_true', decide_eq_false_iff_not, Nat.add_assoc, Nat.reduceAdd]
    refine ⟨fun e => ?_, fun e => ?_⟩
    · exact absurd e (by decide)
    · obtain ⟨e0, e1, e2, en⟩ := e
      exact absurd s3 en
  · simp only [tW, Bool.and_eq_true, decide_eq_true_eq, Bool.not_eq_true', decide_eq_false_iff_not, Nat.add_assoc, Nat.reduceAdd]
    refine ⟨fun e => ?_, fun e => ?_⟩
    · exact absurd e (by decide)
    · obtain ⟨e0, e1, en⟩ := e
      exact absurd s2 en
  · simp only [tW, Bool.and_eq_true, decide_eq_true_eq, Bool.not_eq_true', decide_eq_false_iff_not, Nat.add_assoc, Nat.reduceAdd]
    refine ⟨fun e => ?_, fun e => ?_⟩
    · exact absurd e (by decide)
    · obtain ⟨e0, e1, e2, e3, en⟩ := e
      exact absurd s4 en
  · simp only [tW, Bool.and_eq_true, decide_eq_true_eq, Bool.not_eq_true', decide_eq_false_iff_not, Nat.add_assoc, Nat.reduceAdd]
    refine ⟨fun e => ?_, fun e => ?_⟩
    · exact absurd e (by decide)
    · obtain ⟨e0, e1, e2, en⟩ := e
      exact absurd s3 en
/-- the word that stands here, told by its number -/
theorem m_word {T : Nat → Int32} {n p F : Nat} {m : aM} (h : TM T n m) (hp : m 242 13 = nI p) (hb : p ≤ 4000) (hF : 5000 ≤ F) : ∃ x, f_Mod_wordHere F m = some (x, a_st m 242 13 (nI (kp T p))) ∧ (x = nI 6476969 ↔ tW T (kp T p) wLeast = true) ∧ (x = nI 267347 ↔ tW T (kp T p) wMost = true) ∧ (x = nI 249 ↔ tW T (kp T p) wIf = true) ∧ (x = nI 10631 ↔ tW T (kp T p) wNot = true) ∧ (x = nI 1111 ↔ tW T (kp T p) wAnd = true) ∧ (x = nI 423 ↔ tW T (kp T p) wOr = true) ∧ (x = nI 220309 ↔ tW T (kp T p) wKeep = true) ∧ (x = nI 8798 ↔ tW T (kp T p) wLaw = true) := by
  have h4 := h.1.1
  have h5 : kp T p ≤ 4000 := kp_leB h.1 hb (by omega)
  have hh1 := h.fr (Fr.rf.st (x := nI (kp T p)) (show fM 242 13 by simp [fM]))
  have hh2 : a_st m 242 13 (nI (kp T p)) 242 13 = nI (kp T p) := a_st_self
  have e0 : f_Mod_wordHere F m = ll_Mod_wordHere_8 F F 0 0 (a_st m 242 13 (nI (kp T p))) := by
    unfold f_Mod_wordHere
    rw [m_blanks h hp (by omega) (by omega), o_b2_some]
  rw [e0]
  generalize a_st m 242 13 (nI (kp T p)) = m1 at hh1 hh2
  generalize kp T p = q at h5 hh2
  obtain ⟨N, hN⟩ : ∃ N, F = N + 1 + 1 + 1 + 1 + 1 + 1 := ⟨F - 6, by omega⟩
  have hF' : ll_Mod_wordHere_8 F F 0 0 m1 = ll_Mod_wordHere_8 F (N + 1 + 1 + 1 + 1 + 1 + 1) (nI 0) (nI 0) m1 := by rw [← hN]; rfl
  rw [hF']
  by_cases c0 : tS (T (q + 0))
  case neg =>
    exact ⟨_, m_ww_no hh1 hh2 (by omega) (by omega) c0, wq_0  c0⟩
  obtain ⟨t0, h0, a0, b0⟩ := tS_nat c0
  rw [m_ww_yes hh1 hh2 (by omega) (by omega) h0 a0 b0]
  by_cases c1 : tS (T (q + 1))
  case neg =>
    exact ⟨_, m_ww_no hh1 hh2 (by omega) (by omega) c1, wq_1 h0 a0 b0 c1⟩
  obtain ⟨t1, h1, a1, b1⟩ := tS_nat c1
  rw [m_ww_yes hh1 hh2 (by omega) (by omega) h1 a1 b1]
  by_cases c2 : tS (T (q + 2))
  case neg =>
    exact ⟨_, m_ww_no hh1 hh2 (by omega) (by omega) c2, wq_2 h0 a0 b0 h1 a1 b1 c2⟩
  obtain ⟨t2, h2, a2, b2⟩ := tS_nat c2
  rw [m_ww_yes hh1 hh2 (by omega) (by omega) h2 a2 b2]
  by_cases c3 : tS (T (q + 3))
  case neg =>
    exact ⟨_, m_ww_no hh1 hh2 (by omega) (by omega) c3, wq_3 h0 a0 b0 h1 a1 b1 h2 a2 b2 c3⟩
  obtain ⟨t3, h3, a3, b3⟩ := tS_nat c3
  rw [m_ww_yes hh1 hh2 (by omega) (by omega) h3 a3 b3]
  by_cases c4 : tS (T (q + 4))
  case neg =>
    exact ⟨_, m_ww_no hh1 hh2 (by omega) (by omega) c4, wq_4 h0 a0 b0 h1 a1 b1 h2 a2 b2 h3 a3 b3 c4⟩
  obtain ⟨t4, h4, a4, b4⟩ := tS_nat c4
  rw [m_ww_yes hh1 hh2 (by omega) (by omega) h4 a4 b4]
  by_cases c5 : tS (T (q + 5))
  case neg =>
    exact ⟨_, m_ww_no hh1 hh2 (by omega) (by omega) c5, wq_5 h0 a0 b0 h1 a1 b1 h2 a2 b2 h3 a3 b3 h4 a4 b4 c5⟩
  refine ⟨_, ?_, wq_6 c0 c1 c2 c3 c4 c5⟩
  show lb_Mod_wordHere_8 F (ll_Mod_wordHere_8 F N) _ (nI 5) m1 = _
  unfold lb_Mod_wordHere_8 b_Mod_wordHere_53
  simp only [hh2, nI_add, m_byte hh1 (show q + 5 < 2 ^ 31 by omega), o_b_some, m_small, if_pos c5, show ¬ (1 : Int32) = 0 by decide, if_false, if_pos (show (5 : Int32) ≤ nI 5 by decide), nI_1]
  exact m_ww_ge hh1 hh2 (n - (q + 6)) 6 N _ (by omega) (by omega) (by omega) (by omega)
