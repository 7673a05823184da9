/-! WHAT IS READ GOES ON -/
def PL (X : Nat → pO pV) : Prop := ∀ p q v, X p = .inr (q, v) → p < q
section
variable {T : Nat → Int32}
theorem pOp_lt {α : Type} {c : Int32} {o p q : Nat} {v : α} {k : Nat → pO α} (hk : ∀ p1 q v, k p1 = .inr (q, v) → p1 < q) (e : pOp T c o p k = .inr (q, v)) : p < q := by
  unfold pOp at e
  have g := kp_ge (T := T) (p := p)
  split at e
  · split at e
    · have := hk _ _ _ e
      omega
    · simp at e
  · simp at e
theorem pPr_lt {S : Nat → pO pV} (hS : PL S) {x : Int32} {o : Nat} : PL (pPr T S x o) := fun p q v e => pOp_lt (fun p1 q v e => by
  obtain ⟨p2, v2, e2, e⟩ := pB_inr e
  obtain ⟨p3, v3, e3, e⟩ := pB_inr e
  obtain ⟨p4, v4, e4, e⟩ := pB_inr e
  obtain ⟨p5, v5, e5, e⟩ := pB_inr e
  simp only [Sum.inr.injEq, Prod.mk.injEq] at e
  have := hS _ _ _ e2
  have := pSg_lt e3
  have := hS _ _ _ e4
  have := pSg_lt e5
  omega) e
theorem pIf_lt {S C : Nat → pO pV} (hS : PL S) (hC : PL C) {o : Nat} : PL (pIf T S C o) := fun p q v e => pOp_lt (fun p1 q v e => by
  obtain ⟨p2, v2, e2, e⟩ := pB_inr e
  obtain ⟨p3, v3, e3, e⟩ := pB_inr e
  obtain ⟨p4, v4, e4, e⟩ := pB_inr e
  obtain ⟨p5, v5, e5, e⟩ := pB_inr e
  obtain ⟨p6, v6, e6, e⟩ := pB_inr e
  obtain ⟨p7, v7, e7, e⟩ := pB_inr e
  simp only [Sum.inr.injEq, Prod.mk.injEq] at e
  have := hC _ _ _ e2
  have := pSg_lt e3
  have := hS _ _ _ e4
  have := pSg_lt e5
  have := hS _ _ _ e6
  have := pSg_lt e7
  omega) e
theorem pPa_lt {S : Nat → pO pV} (hS : PL S) {c d : Int32} {o : Nat} : PL (pPa T S c d o) := fun p q v e => pOp_lt (fun p1 q v e => by
  obtain ⟨p2, v2, e2, e⟩ := pB_inr e
  obtain ⟨p3, v3, e3, e⟩ := pB_inr e
  simp only [Sum.inr.injEq, Prod.mk.injEq] at e
  have := hS _ _ _ e2
  have := pSg_lt e3
  omega) e
theorem pU_lt {al : Bool} {S C : Nat → pO pV} (hS : PL S) (hC : PL C) {o : Nat} : PL (pU T al S C o) := fun p q v e => by
  unfold pU at e
  have g := kp_ge (T := T) (p := p)
  split at e
  · rename_i d
    split at e
    · simp only [Sum.inr.injEq, Prod.mk.injEq] at e
      have g3 : kp T p < (nm T 400 0 (kp T p)).2 := by
        unfold nm
        rw [if_pos d]
        exact nm_ge _ _ _
      omega
    · simp at e
  · split at e
    · split at e
      · have := pPa_lt hS _ _ _ e; omega
      · split at e
        · have := pPr_lt hS _ _ _ e; omega
        · split at e
          · have := pPr_lt hS _ _ _ e; omega
          · split at e
            · have := pIf_lt hS hC _ _ _ e; omega
            · simp at e
    · split at e
      · simp at e
      · simp only [Sum.inr.injEq, Prod.mk.injEq] at e
        omega
theorem pLp_le {X : Nat → pO pV} (hX : PL X) {c1 x1 c2 x2 : Int32} : ∀ d v p q w, pLp T X c1 x1 c2 x2 d v p = .inr (q, w) → p ≤ q
  | 0, v, p, q, w, e => by simp [pLp] at e
  | d + 1, v, p, q, w, e => by
    unfold pLp at e
    have g := kp_ge (T := T) (p := p)
    split at e
    · obtain ⟨p2, v2, e2, e⟩ := pB_inr e
      have := hX _ _ _ e2
      have := pLp_le hX d _ _ _ _ e
      omega
    · split at e
      · obtain ⟨p2, v2, e2, e⟩ := pB_inr e
        have := hX _ _ _ e2
        have := pLp_le hX d _ _ _ _ e
        omega
      · simp only [Sum.inr.injEq, Prod.mk.injEq] at e
        omega
theorem pLq_lt {X : Nat → pO pV} (hX : PL X) {c1 x1 c2 x2 : Int32} : PL (pLq T X c1 x1 c2 x2) := fun p q v e => by
  obtain ⟨p2, v2, e2, e⟩ := pB_inr e
  have := hX _ _ _ e2
  have := pLp_le hX _ _ _ _ _ e
  omega
theorem pWp_le {X : Nat → pO pV} (hX : PL X) {w : List Int32} {x : Int32} : ∀ d v p q z, pWp T X w x d v p = .inr (q, z) → p ≤ q
  | 0, v, p, q, z, e => by simp [pWp] at e
  | d + 1, v, p, q, z, e => by
    unfold pWp at e
    have g := kp_ge (T := T) (p := p)
    split at e
    · obtain ⟨p2, v2, e2, e⟩ := pB_inr e
      have := hX _ _ _ e2
      have := pWp_le hX d _ _ _ _ e
      omega
    · simp only [Sum.inr.injEq, Prod.mk.injEq] at e
      omega
theorem pWq_lt {X : Nat → pO pV} (hX : PL X) {w : List Int32} {x : Int32} : PL (pWq T X w x) := fun p q v e => by
  obtain ⟨p2, v2, e2, e⟩ := pB_inr e
  have := hX _ _ _ e2
  have := pWp_le hX _ _ _ _ _ e
  omega
theorem pCm_lt {S : Nat → pO pV} (hS : PL S) : PL (pCm T S) := fun p q v e => by
  obtain ⟨p2, v2, e2, e⟩ := pB_inr e
  have h1 := hS _ _ _ e2
  have g := kp_ge (T := T) (p := p2)
  have key : ∀ x, (pB (S (kp T p2 + 1)) fun p2 u => (.inr (p2, pv2 (jn x) v2 u) : pO pV)) = .inr (q, v) → p < q := fun x e => by
    obtain ⟨p3, v3, e3, e⟩ := pB_inr e
    simp only [Sum.inr.injEq, Prod.mk.injEq] at e
    have := hS _ _ _ e3
    omega
  split at e
  · exact key _ e
  · split at e
    · exact key _ e
    · split at e
      · exact key _ e
      · simp at e
theorem pBt_lt {S C B : Nat → pO pV} (hS : PL S) (hC : PL C) (hB : PL B) {o : Nat} : PL (pBt T S C B o) := fun p q v e => by
  unfold pBt pNt at e
  have g := kp_ge (T := T) (p := p)
  split at e
  · split at e
    · obtain ⟨p3, v3, e3, e⟩ := pB_inr e
      simp only [Sum.inr.injEq, Prod.mk.injEq] at e
      have := hB _ _ _ e3
      omega
    · simp at e
  · split at e
    · have := pPa_lt hC _ _ _ e
      omega
    · have := pCm_lt hS _ _ _ e
      omega
theorem pC_lt {B : Nat → pO pV} (hB : PL B) : PL (pC T B) := pWq_lt (pWq_lt hB)
theorem pSt_lt {al : Bool} {o : Nat} {X : (Nat → pO pV) × (Nat → pO pV)} (h1 : PL X.1) (h2 : PL X.2) : PL (pSt T al o X).1 ∧ PL (pSt T al o X).2 := by
  have s : PL (pSt T al o X).1 := pLq_lt (pLq_lt (pU_lt h1 (pC_lt h2)))
  exact ⟨s, pBt_lt s (pC_lt h2) h2⟩
theorem pLv_lt {al : Bool} : ∀ r, PL (pLv T al r).1 ∧ PL (pLv T al r).2
  | 0 => pSt_lt (fun p q v e => by simp at e) (fun p q v e => by simp at e)
  | r + 1 => pSt_lt (pLv_lt r).1 (pLv_lt r).2
end
/-! THE REFERENCE'S READER: one after the other -/
section
variable {T : Nat → Int32} {n : Nat} {al : Bool} {s : Int32} {a b : Nat → Int32} {ft : Int32} {F : Nat} {rcS rcT : aM → Option (Int32 × aM)}
theorem m_product_lF {N : Nat} {m : aM} {p q E : Nat} {k x : Int32} (h : MF T n m p k q) (hp : p ≤ E) (h4 : 400 ≤ E) (hE : E ≤ 4000) (hF : 5000 ≤ F) (hN : 1 ≤ N) : MZ T n false m (b_Mod_product_89 F rcS rcT (ll_Mod_product_9 F rcS rcT N) x m) k q E := by
  obtain ⟨N, rfl⟩ : ∃ k, N = k + 1 := ⟨N - 1, by omega⟩
  obtain ⟨e, h1, h2⟩ := m_blanksF h hF hp h4 hE
  unfold b_Mod_product_89
  simp only [e, o_b2_some]
  show MZ T n false m (lb_Mod_product_9 F rcS rcT (ll_Mod_product_9 F rcS rcT N) x (a_st m 242 13 (nI (kp T p)))) k q E
  unfold lb_Mod_product_9
  rw [if_neg h1.ne]
  exact ⟨_, _, _, rfl, h1, h2, at_fr, nob⟩
theorem m_product_l {X : Nat → pO pV} {o E : Nat} (hX : MQx T n al s a b ft (g_Mod_unit F rcS rcT) X o E false) (hP : PL X) (hE : 400 ≤ E) (hE2 : E ≤ 4000) (hF : 5000 ≤ F) : ∀ (d N p : Nat) (v : pV) (m : aM), MS T n s a b ft m (kp T p) o → n < d + p → d < N →
    MO T n s a b ft (al = true → s ≠ 0) (fun (v : pV) x => x = v a b) o E false m (ll_Mod_product_9 F rcS rcT N (v a b) m) (pLp T X 42 8 47 9 d v p)
  | 0, N, p, v, m, h, hd, hN => by
    have := kp_ge (T := T) (p := p)
    have := h.2.2.2.2.2.1
    omega
  | d + 1, N, p, v, m, h, hd, hN => by
    obtain ⟨N, rfl⟩ : ∃ k, N = k + 1 := ⟨N - 1, by omega⟩
    have g := h.2.2.2.2.2.1
    have h4 := h.n4
    have g0 := kp_ge (T := T) (p := p)
    have e0 : ll_Mod_product_9 F rcS rcT (N + 1) (v a b) m = lb_Mod_product_9 F rcS rcT (ll_Mod_product_9 F rcS rcT N) (v a b) m := rfl
    rw [e0]
    unfold lb_Mod_product_9 b_Mod_product_42 pLp
    simp only [h.2.2.2.1, if_true, h.2.1, m_byte h.1 (show kp T p < 2 ^ 31 by omega), o_b_some, o_let_eq, nI_1]
    have tail : ∀ (x : Int32) (u : pV) (q : Nat) (m1 : aM) (w : pV), X (kp T p + 1) = .inr (q, u) → MS T n s a b ft m1 q o → x = w a b → MO T n s a b ft (al = true → s ≠ 0) (fun (v : pV) x => x = v a b) o E false m1 (b_Mod_product_89 F rcS rcT (ll_Mod_product_9 F rcS rcT N) x m1) (pLp T X 42 8 47 9 d w q) := fun x u q m1 w eX h1 hx => by
      obtain ⟨e1, h2⟩ := m_blanksS h1 hF
      have := hP _ _ _ eX
      unfold b_Mod_product_89
      simp only [e1, o_b2_some, hx]
      exact (m_product_l hX hP hE hE2 hF d N q w _ h2 (by omega) (by omega)).tr at_fr (Nat.le_refl _)
    by_cases k1 : T (kp T p) = 42
    · have hl := h.1.1.lt k1 (by decide)
      simp only [if_pos k1]
      refine MO.tr at_fr (MO.bind (hX _ _ (h.at (q := kp T p + 1) (by omega))) (fun q u y m1 e r h1 f _ => ?_) (fun y m1 p1 k q h1 h2 _ => m_product_lF h1 h2 hE hE2 hF (by omega))) (Nat.le_refl _)
      subst r
      exact tail _ u q m1 _ e h1 rfl
    · simp only [if_neg k1]
      by_cases k2 : T (kp T p) = 47
      · have hl := h.1.1.lt k2 (by decide)
        have hv2 : ∀ u : pV, pv2 (jn 9) v u a b = (if u a b = 0 then 0 else v a b / u a b) := fun u => rfl
        simp only [if_pos k2]
        refine MO.tr at_fr (MO.bind (hX _ _ (h.at (q := kp T p + 1) (by omega))) (fun q u y m1 e r h1 f _ => ?_) (fun y m1 p1 k q h1 h2 _ => ?_)) (Nat.le_refl _)
        · subst r
          by_cases z : u a b = 0
          · rw [if_pos z]
            exact tail _ u q m1 _ e h1 (by rw [hv2, if_pos z])
          · rw [if_neg z, show nz (u a b) = true by simp [nz, z], o_gd_t]
            exact tail _ u q m1 _ e h1 (by rw [hv2, if_neg z])
        · by_cases z : y = 0
          · rw [if_pos z]
            exact m_product_lF h1 h2 hE hE2 hF (by omega)
          · rw [if_neg z, show nz y = true by simp [nz, z], o_gd_t]
            exact m_product_lF h1 h2 hE hE2 hF (by omega)
      · simp only [if_neg k2]
        exact MO.ret rfl h Fr.rf nob
theorem m_product {X : Nat → pO pV} {o E : Nat} (hX : MQx T n al s a b ft (g_Mod_unit F rcS rcT) X o E false) (hP : PL X) (hE : 400 ≤ E) (hE2 : E ≤ 4000) (hF : 5000 ≤ F) : MQx T n al s a b ft (g_Mod_product F rcS rcT) (pLq T X 42 8 47 9) o E false := fun m p h => by
  unfold g_Mod_product pLq
  have h4 := h.n4
  refine MO.bind (hX m p h) (fun q u y m1 e r h1 f _ => ?_) (fun y m1 p1 k q h1 h2 _ => m_product_lF h1 h2 hE hE2 hF (by omega))
  obtain ⟨e1, h2⟩ := m_blanksS h1 hF
  have := hP _ _ _ e
  subst r
  simp only [e1, o_b2_some]
  exact (m_product_l hX hP hE hE2 hF 400 F q u _ h2 (by omega) (by omega)).tr at_fr (Nat.le_refl _)
theorem m_productG (hX : MG T n (g_Mod_unit F rcS rcT) false) (hF : 5000 ≤ F) : MG T n (g_Mod_product F rcS rcT) false := fun E m p k q h4 hE h hp => by
  unfold g_Mod_product
  exact (hX E m p k q h4 hE h hp).bind (fun y m1 p1 h1 h2 _ => m_product_lF h1 h2 h4 hE hF (by omega))
theorem m_total_lF {N : Nat} {m : aM} {p q E : Nat} {k x : Int32} (h : MF T n m p k q) (hp : p ≤ E) (h4 : 400 ≤ E) (hE : E ≤ 4000) (hF : 5000 ≤ F) (hN : 1 ≤ N) : MZ T n false m (b_Mod_total_81 F rcS rcT (ll_Mod_total_9 F rcS rcT N) x m) k q E := by
  obtain ⟨N, rfl⟩ : ∃ k, N = k + 1 := ⟨N - 1, by omega⟩
  obtain ⟨e, h1, h2⟩ := m_blanksF h hF hp h4 hE
  unfold b_Mod_total_81
  simp only [e, o_b2_some]
  show MZ T n false m (lb_Mod_total_9 F rcS rcT (ll_Mod_total_9 F rcS rcT N) x (a_st m 242 13 (nI (kp T p)))) k q E
  unfold lb_Mod_total_9
  rw [if_neg h1.ne]
  exact ⟨_, _, _, rfl, h1, h2, at_fr, nob⟩
theorem m_total_l {X : Nat → pO pV} {o E : Nat} (hX : MQx T n al s a b ft (g_Mod_product F rcS rcT) X o E false) (hP : PL X) (hE : 400 ≤ E) (hE2 : E ≤ 4000) (hF : 5000 ≤ F) : ∀ (d N p : Nat) (v : pV) (m : aM), MS T n s a b ft m (kp T p) o → n < d + p → d < N →
    MO T n s a b ft (al = true → s ≠ 0) (fun (v : pV) x => x = v a b) o E false m (ll_Mod_total_9 F rcS rcT N (v a b) m) (pLp T X 43 6 45 7 d v p)
  | 0, N, p, v, m, h, hd, hN => by
    have := kp_ge (T := T) (p := p)
    have := h.2.2.2.2.2.1
    omega
  | d + 1, N, p, v, m, h, hd, hN => by
    obtain ⟨N, rfl⟩ : ∃ k, N = k + 1 := ⟨N - 1, by omega⟩
    have g := h.2.2.2.2.2.1
    have h4 := h.n4
    have g0 := kp_ge (T := T) (p := p)
    have e0 : ll_Mod_total_9 F rcS rcT (N + 1) (v a b) m = lb_Mod_total_9 F rcS rcT (ll_Mod_total_9 F rcS rcT N) (v a b) m := rfl
    rw [e0]
    unfold lb_Mod_total_9 b_Mod_total_42 pLp
    simp only [h.2.2.2.1, if_true, h.2.1, m_byte h.1 (show kp T p < 2 ^ 31 by omega), o_b_some, o_let_eq, nI_1]
    have tail : ∀ (x : Int32) (u : pV) (q : Nat) (m1 : aM) (w : pV), X (kp T p + 1) = .inr (q, u) → MS T n s a b ft m1 q o → x = w a b → MO T n s a b ft (al = true → s ≠ 0) (fun (v : pV) x => x = v a b) o E false m1 (b_Mod_total_81 F rcS rcT (ll_Mod_total_9 F rcS rcT N) x m1) (pLp T X 43 6 45 7 d w q) := fun x u q m1 w eX h1 hx => by
      obtain ⟨e1, h2⟩ := m_blanksS h1 hF
      have := hP _ _ _ eX
      unfold b_Mod_total_81
      simp only [e1, o_b2_some, hx]
      exact (m_total_l hX hP hE hE2 hF d N q w _ h2 (by omega) (by omega)).tr at_fr (Nat.le_refl _)
    by_cases k1 : T (kp T p) = 43
    · have hl := h.1.1.lt k1 (by decide)
      simp only [if_pos k1]
      refine MO.tr at_fr (MO.bind (hX _ _ (h.at (q := kp T p + 1) (by omega))) (fun q u y m1 e r h1 f _ => ?_) (fun y m1 p1 k q h1 h2 _ => m_total_lF h1 h2 hE hE2 hF (by omega))) (Nat.le_refl _)
      subst r
      exact tail _ u q m1 _ e h1 rfl
    · simp only [if_neg k1]
      by_cases k2 : T (kp T p) = 45
      · have hl := h.1.1.lt k2 (by decide)
        have hv2 : ∀ u : pV, pv2 (jn 7) v u a b = v a b - u a b := fun u => rfl
        simp only [if_pos k2]
        refine MO.tr at_fr (MO.bind (hX _ _ (h.at (q := kp T p + 1) (by omega))) (fun q u y m1 e r h1 f _ => ?_) (fun y m1 p1 k q h1 h2 _ => ?_)) (Nat.le_refl _)
        · subst r
          exact tail _ u q m1 _ e h1 (hv2 u).symm
        · exact m_total_lF h1 h2 hE hE2 hF (by omega)
      · simp only [if_neg k2]
        exact MO.ret rfl h Fr.rf nob
theorem m_total {X : Nat → pO pV} {o E : Nat} (hX : MQx T n al s a b ft (g_Mod_product F rcS rcT) X o E false) (hP : PL X) (hE : 400 ≤ E) (hE2 : E ≤ 4000) (hF : 5000 ≤ F) : MQx T n al s a b ft (g_Mod_total F rcS rcT) (pLq T X 43 6 45 7) o E false := fun m p h => by
  unfold g_Mod_total pLq
  have h4 := h.n4
  refine MO.bind (hX m p h) (fun q u y m1 e r h1 f _ => ?_) (fun y m1 p1 k q h1 h2 _ => m_total_lF h1 h2 hE hE2 hF (by omega))
  obtain ⟨e1, h2⟩ := m_blanksS h1 hF
  have := hP _ _ _ e
  subst r
  simp only [e1, o_b2_some]
  exact (m_total_l hX hP hE hE2 hF 400 F q u _ h2 (by omega) (by omega)).tr at_fr (Nat.le_refl _)
theorem m_totalG (hX : MG T n (g_Mod_product F rcS rcT) false) (hF : 5000 ≤ F) : MG T n (g_Mod_total F rcS rcT) false := fun E m p k q h4 hE h hp => by
  unfold g_Mod_total
  exact (hX E m p k q h4 hE h hp).bind (fun y m1 p1 h1 h2 _ => m_total_lF h1 h2 h4 hE hF (by omega))
theorem m_ands_lF {N : Nat} {m : aM} {p q E : Nat} {k x : Int32} (h : MF T n m p k q) (hp : p ≤ E) (hN : 1 ≤ N) (hx : isb x = true) : MZ T n true m (ll_Mod_ands_5 F rcS rcT N x m) k q E := by
  obtain ⟨N, rfl⟩ : ∃ k, N = k + 1 := ⟨N - 1, by omega⟩
  show MZ T n true m (lb_Mod_ands_5 F rcS rcT (ll_Mod_ands_5 F rcS rcT N) x m) k q E
  unfold lb_Mod_ands_5
  rw [if_neg h.ne, hx, o_gd_t]
  exact ⟨_, _, _, rfl, h, hp, Fr.rf, fun _ => hx⟩
theorem m_ands_v {u v : pV} (hv : isb (v a b) = true) (hu : isb (u a b) = true) : pv2 (jn 15) v u a b = (if v a b = 0 then 0 else if u a b = 0 then 0 else 1) := by
  show jn 15 (v a b) (u a b) = _
  rcases isb_or hv with e | e <;> rcases isb_or hu with e' | e' <;> rw [e, e'] <;> rfl
theorem m_ands_l {X : Nat → pO pV} {o E : Nat} (hX : MQx T n al s a b ft (rcT) X o E true) (hP : PL X) (hE : 400 ≤ E) (hE2 : E ≤ 4000) (hF : 5000 ≤ F) : ∀ (d N p : Nat) (v : pV) (m : aM), MS T n s a b ft m p o → isb (v a b) = true → n < d + p → d < N →
    MO T n s a b ft (al = true → s ≠ 0) (fun (v : pV) x => x = v a b) o E true m (ll_Mod_ands_5 F rcS rcT N (v a b) m) (pWp T X wAnd 15 d v p)
  | 0, N, p, v, m, h, hv, hd, hN => by
    have := h.2.2.2.2.2.1
    omega
  | d + 1, N, p, v, m, h, hv, hd, hN => by
    obtain ⟨N, rfl⟩ : ∃ k, N = k + 1 := ⟨N - 1, by omega⟩
    have g := h.2.2.2.2.2.1
    have h4 := h.n4
    have g0 := kp_ge (T := T) (p := p)
    have gl := kp_le h.1.1 g
    have h1 := h.at gl
    obtain ⟨x, ew, w1, w2, w3, w4, w5, w6, w7, w8⟩ := m_word (F := F) h.1 h.2.1 (by omega) hF
    have e0 : ll_Mod_ands_5 F rcS rcT (N + 1) (v a b) m = lb_Mod_ands_5 F rcS rcT (ll_Mod_ands_5 F rcS rcT N) (v a b) m := rfl
    rw [e0]
    unfold lb_Mod_ands_5 b_Mod_ands_49 b_Mod_ands_50 pWp
    simp only [h.2.2.2.1, if_true, ew, o_b2_some, show ∀ m, f_Mod_word 1 14 4 0 0 m = some (nI 1111) from fun _ => rfl, o_b_some, ww w5, hv, o_gd_t]
    by_cases k1 : tW T (kp T p) wAnd = true
    · have hl := tW_lt h.1.1 wAnd (kp T p) (by decide) gl k1
      have hl' := hl
      simp only [List.length_cons, List.length_nil] at hl'
      simp only [if_pos k1, m_skipW h1.1 h1.2.1 (show kp T p ≤ 3000 by omega) (show ∀ c ∈ wAnd, tS c by decide) (by decide) k1 hF, a_st_st, o_b2_some]
      refine MO.tr at_fr (MO.bind (hX _ _ (h.at hl)) (fun q u y m1 e r h2 f i => ?_) (fun y m1 p1 k q h2 h3 _ => ?_)) (Nat.le_refl _)
      · subst r
        have := hP _ _ _ e
        have ih := m_ands_l hX hP hE hE2 hF d N q (pv2 (jn 15) v u) m1 h2 (by rw [m_ands_v hv (i rfl)]; by_cases z1 : v a b = 0 <;> by_cases z2 : u a b = 0 <;> simp [z1, z2, isb]) (by omega) (by omega)
        rw [m_ands_v hv (i rfl)] at ih
        revert ih
        repeat' split
        all_goals exact id
      · repeat' split
        all_goals exact m_ands_lF h2 h3 (by omega) rfl
    · simp only [if_neg k1]
      exact MO.ret rfl h1 at_fr (fun _ => hv)
theorem m_ands {X : Nat → pO pV} {o E : Nat} (hX : MQx T n al s a b ft (rcT) X o E true) (hP : PL X) (hE : 400 ≤ E) (hE2 : E ≤ 4000) (hF : 5000 ≤ F) : MQx T n al s a b ft (g_Mod_ands F rcS rcT) (pWq T X wAnd 15) o E true := fun m p h => by
  unfold g_Mod_ands pWq
  have h4 := h.n4
  refine MO.bind (hX m p h) (fun q u y m1 e r h1 f i => ?_) (fun y m1 p1 k q h1 h2 i => m_ands_lF h1 h2 (by omega) (i rfl))
  have := hP _ _ _ e
  subst r
  exact m_ands_l hX hP hE hE2 hF 400 F q u _ h1 (i rfl) (by omega) (by omega)
theorem m_andsG (hX : MG T n (rcT) true) (hF : 5000 ≤ F) : MG T n (g_Mod_ands F rcS rcT) true := fun E m p k q h4 hE h hp => by
  unfold g_Mod_ands
  exact (hX E m p k q h4 hE h hp).bind (fun y m1 p1 h1 h2 i => m_ands_lF h1 h2 (by omega) (i rfl))
theorem m_ors_lF {N : Nat} {m : aM} {p q E : Nat} {k x : Int32} (h : MF T n m p k q) (hp : p ≤ E) (hN : 1 ≤ N) (hx : isb x = true) : MZ T n true m (ll_Mod_ors_5 F rcS rcT N x m) k q E := by
  obtain ⟨N, rfl⟩ : ∃ k, N = k + 1 := ⟨N - 1, by omega⟩
  show MZ T n true m (lb_Mod_ors_5 F rcS rcT (ll_Mod_ors_5 F rcS rcT N) x m) k q E
  unfold lb_Mod_ors_5
  rw [if_neg h.ne, hx, o_gd_t]
  exact ⟨_, _, _, rfl, h, hp, Fr.rf, fun _ => hx⟩
theorem m_ors_v {u v : pV} (hv : isb (v a b) = true) (hu : isb (u a b) = true) : pv2 (jn 16) v u a b = (if v a b = 0 then (if u a b = 0 then 0 else 1) else 1) := by
  show jn 16 (v a b) (u a b) = _
  rcases isb_or hv with e | e <;> rcases isb_or hu with e' | e' <;> rw [e, e'] <;> rfl
theorem m_ors_l {X : Nat → pO pV} {o E : Nat} (hX : MQx T n al s a b ft (g_Mod_ands F rcS rcT) X o E true) (hP : PL X) (hE : 400 ≤ E) (hE2 : E ≤ 4000) (hF : 5000 ≤ F) : ∀ (d N p : Nat) (v : pV) (m : aM), MS T n s a b ft m p o → isb (v a b) = true → n < d + p → d < N →
    MO T n s a b ft (al = true → s ≠ 0) (fun (v : pV) x => x = v a b) o E true m (ll_Mod_ors_5 F rcS rcT N (v a b) m) (pWp T X wOr 16 d v p)
  | 0, N, p, v, m, h, hv, hd, hN => by
    have := h.2.2.2.2.2.1
    omega
  | d + 1, N, p, v, m, h, hv, hd, hN => by
    obtain ⟨N, rfl⟩ : ∃ k, N = k + 1 := ⟨N - 1, by omega⟩
    have g := h.2.2.2.2.2.1
    have h4 := h.n4
    have g0 := kp_ge (T := T) (p := p)
    have gl := kp_le h.1.1 g
    have h1 := h.at gl
    obtain ⟨x, ew, w1, w2, w3, w4, w5, w6, w7, w8⟩ := m_word (F := F) h.1 h.2.1 (by omega) hF
    have e0 : ll_Mod_ors_5 F rcS rcT (N + 1) (v a b) m = lb_Mod_ors_5 F rcS rcT (ll_Mod_ors_5 F rcS rcT N) (v a b) m := rfl
    rw [e0]
    unfold lb_Mod_ors_5 b_Mod_ors_46 b_Mod_ors_51 pWp
    simp only [h.2.2.2.1, if_true, ew, o_b2_some, show ∀ m, f_Mod_word 15 18 0 0 0 m = some (nI 423) from fun _ => rfl, o_b_some, ww w6, hv, o_gd_t]
    by_cases k1 : tW T (kp T p) wOr = true
    · have hl := tW_lt h.1.1 wOr (kp T p) (by decide) gl k1
      have hl' := hl
      simp only [List.length_cons, List.length_nil] at hl'
      simp only [if_pos k1, m_skipW h1.1 h1.2.1 (show kp T p ≤ 3000 by omega) (show ∀ c ∈ wOr, tS c by decide) (by decide) k1 hF, a_st_st, o_b2_some]
      refine MO.tr at_fr (MO.bind (hX _ _ (h.at hl)) (fun q u y m1 e r h2 f i => ?_) (fun y m1 p1 k q h2 h3 _ => ?_)) (Nat.le_refl _)
      · subst r
        have := hP _ _ _ e
        have ih := m_ors_l hX hP hE hE2 hF d N q (pv2 (jn 16) v u) m1 h2 (by rw [m_ors_v hv (i rfl)]; by_cases z1 : v a b = 0 <;> by_cases z2 : u a b = 0 <;> simp [z1, z2, isb]) (by omega) (by omega)
        rw [m_ors_v hv (i rfl)] at ih
        revert ih
        repeat' split
        all_goals exact id
      · repeat' split
        all_goals exact m_ors_lF h2 h3 (by omega) rfl
    · simp only [if_neg k1]
      exact MO.ret rfl h1 at_fr (fun _ => hv)
theorem m_ors {X : Nat → pO pV} {o E : Nat} (hX : MQx T n al s a b ft (g_Mod_ands F rcS rcT) X o E true) (hP : PL X) (hE : 400 ≤ E) (hE2 : E ≤ 4000) (hF : 5000 ≤ F) : MQx T n al s a b ft (g_Mod_ors F rcS rcT) (pWq T X wOr 16) o E true := fun m p h => by
  unfold g_Mod_ors pWq
  have h4 := h.n4
  refine MO.bind (hX m p h) (fun q u y m1 e r h1 f i => ?_) (fun y m1 p1 k q h1 h2 i => m_ors_lF h1 h2 (by omega) (i rfl))
  have := hP _ _ _ e
  subst r
  exact m_ors_l hX hP hE hE2 hF 400 F q u _ h1 (i rfl) (by omega) (by omega)
theorem m_orsG (hX : MG T n (g_Mod_ands F rcS rcT) true) (hF : 5000 ≤ F) : MG T n (g_Mod_ors F rcS rcT) true := fun E m p k q h4 hE h hp => by
  unfold g_Mod_ors
  exact (hX E m p k q h4 hE h hp).bind (fun y m1 p1 h1 h2 i => m_ors_lF h1 h2 (by omega) (i rfl))
end
