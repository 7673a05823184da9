/-! WHAT A VALUE RESTS ON -/
def dp (al : Bool) (v : pV) : Prop := ∀ a a' b b' : Nat → Int32, (∀ j, j < 4 → a j = a' j) → (al = false → ∀ j, j < 4 → b j = b' j) → v a b = v a' b'
def PD (al : Bool) (X : Nat → pO pV) : Prop := ∀ p q v, X p = .inr (q, v) → dp al v
theorem dp_2 {al : Bool} {f : Int32 → Int32 → Int32} {v u : pV} (h : dp al v) (k : dp al u) : dp al (pv2 f v u) := fun a a' b b' h1 h2 => by
  show f (v a b) (u a b) = f (v a' b') (u a' b')
  rw [h a a' b b' h1 h2, k a a' b b' h1 h2]
section
variable {T : Nat → Int32} {al : Bool}
theorem pOp_d {c : Int32} {o p q : Nat} {v : pV} {k : Nat → pO pV} (hk : ∀ p1 q v, k p1 = .inr (q, v) → dp al v) (e : pOp T c o p k = .inr (q, v)) : dp al v := by
  unfold pOp at e
  split at e
  · split at e
    · exact hk _ _ _ e
    · simp at e
  · simp at e
theorem pPr_d {S : Nat → pO pV} (hS : PD al S) {x : Int32} {o : Nat} : PD al (pPr T S x o) := fun p q v e => pOp_d (fun p1 q v e => by
  obtain ⟨p2, v2, e2, e⟩ := pB_inr e
  obtain ⟨p3, v3, e3, e⟩ := pB_inr e
  obtain ⟨p4, v4, e4, e⟩ := pB_inr e
  obtain ⟨p5, v5, e5, e⟩ := pB_inr e
  simp only [Sum.inr.injEq, Prod.mk.injEq] at e
  obtain ⟨rfl, rfl⟩ := e
  exact dp_2 (hS _ _ _ e2) (hS _ _ _ e4)) e
theorem pIf_d {S C : Nat → pO pV} (hS : PD al S) (hC : PD al C) {o : Nat} : PD al (pIf T S C o) := fun p q v e => pOp_d (fun p1 q v e => by
  obtain ⟨p2, v2, e2, e⟩ := pB_inr e
  obtain ⟨p3, v3, e3, e⟩ := pB_inr e
  obtain ⟨p4, v4, e4, e⟩ := pB_inr e
  obtain ⟨p5, v5, e5, e⟩ := pB_inr e
  obtain ⟨p6, v6, e6, e⟩ := pB_inr e
  obtain ⟨p7, v7, e7, e⟩ := pB_inr e
  simp only [Sum.inr.injEq, Prod.mk.injEq] at e
  obtain ⟨rfl, rfl⟩ := e
  intro a a' b b' h1 h2
  show (if v2 a b = 0 then v6 a b else v4 a b) = if v2 a' b' = 0 then v6 a' b' else v4 a' b'
  rw [hC _ _ _ e2 a a' b b' h1 h2, hS _ _ _ e4 a a' b b' h1 h2, hS _ _ _ e6 a a' b b' h1 h2]) e
theorem pPa_d {S : Nat → pO pV} (hS : PD al S) {c d : Int32} {o : Nat} : PD al (pPa T S c d o) := fun p q v e => pOp_d (fun p1 q v e => by
  obtain ⟨p2, v2, e2, e⟩ := pB_inr e
  obtain ⟨p3, v3, e3, e⟩ := pB_inr e
  simp only [Sum.inr.injEq, Prod.mk.injEq] at e
  obtain ⟨rfl, rfl⟩ := e
  exact hS _ _ _ e2) e
theorem pU_d {S C : Nat → pO pV} (hS : PD al S) (hC : PD al C) {o : Nat} : PD al (pU T al S C o) := fun p q v e => by
  unfold pU at e
  split at e
  · split at e
    · simp only [Sum.inr.injEq, Prod.mk.injEq] at e
      obtain ⟨rfl, rfl⟩ := e
      exact fun _ _ _ _ _ _ => rfl
    · simp at e
  · split at e
    · split at e
      · exact pPa_d hS _ _ _ e
      · split at e
        · exact pPr_d hS _ _ _ e
        · split at e
          · exact pPr_d hS _ _ _ e
          · split at e
            · exact pIf_d hS hC _ _ _ e
            · simp at e
    · rename_i hl
      split at e
      · simp at e
      · rename_i ha
        simp only [Sum.inr.injEq, Prod.mk.injEq] at e
        obtain ⟨rfl, rfl⟩ := e
        obtain ⟨l, l8, el, _⟩ := tL_in hl
        rw [el] at ha ⊢
        intro a a' b b' h1 h2
        by_cases c : l < 4
        · rw [pLt_lo c]
          exact h1 l c
        · rw [pLt_hi (by omega) l8]
          refine h2 ?_ (l - 4) (by omega)
          cases al with
          | false => rfl
          | true => exact absurd ⟨rfl, show ¬ nI l < 4 from nI_nlt (b := 4) (by omega) (by omega)⟩ ha
theorem pLp_d {X : Nat → pO pV} (hX : PD al X) {c1 x1 c2 x2 : Int32} : ∀ d v p q w, dp al v → pLp T X c1 x1 c2 x2 d v p = .inr (q, w) → dp al w
  | 0, v, p, q, w, hv, e => by simp [pLp] at e
  | d + 1, v, p, q, w, hv, e => by
    unfold pLp at e
    split at e
    · obtain ⟨p2, v2, e2, e⟩ := pB_inr e
      exact pLp_d hX d _ _ _ _ (dp_2 hv (hX _ _ _ e2)) e
    · split at e
      · obtain ⟨p2, v2, e2, e⟩ := pB_inr e
        exact pLp_d hX d _ _ _ _ (dp_2 hv (hX _ _ _ e2)) e
      · simp only [Sum.inr.injEq, Prod.mk.injEq] at e
        obtain ⟨rfl, rfl⟩ := e
        exact hv
theorem pLq_d {X : Nat → pO pV} (hX : PD al X) {c1 x1 c2 x2 : Int32} : PD al (pLq T X c1 x1 c2 x2) := fun p q v e => by
  obtain ⟨p2, v2, e2, e⟩ := pB_inr e
  exact pLp_d hX _ _ _ _ _ (hX _ _ _ e2) e
theorem pWp_d {X : Nat → pO pV} (hX : PD al X) {w : List Int32} {x : Int32} : ∀ d v p q z, dp al v → pWp T X w x d v p = .inr (q, z) → dp al z
  | 0, v, p, q, z, hv, e => by simp [pWp] at e
  | d + 1, v, p, q, z, hv, e => by
    unfold pWp at e
    split at e
    · obtain ⟨p2, v2, e2, e⟩ := pB_inr e
      exact pWp_d hX d _ _ _ _ (dp_2 hv (hX _ _ _ e2)) e
    · simp only [Sum.inr.injEq, Prod.mk.injEq] at e
      obtain ⟨rfl, rfl⟩ := e
      exact hv
theorem pWq_d {X : Nat → pO pV} (hX : PD al X) {w : List Int32} {x : Int32} : PD al (pWq T X w x) := fun p q v e => by
  obtain ⟨p2, v2, e2, e⟩ := pB_inr e
  exact pWp_d hX _ _ _ _ _ (hX _ _ _ e2) e
theorem pCm_d {S : Nat → pO pV} (hS : PD al S) : PD al (pCm T S) := fun p q v e => by
  obtain ⟨p2, v2, e2, e⟩ := pB_inr e
  have key : ∀ x, (pB (S (kp T p2 + 1)) fun p2 u => (.inr (p2, pv2 (jn x) v2 u) : pO pV)) = .inr (q, v) → dp al v := fun x e => by
    obtain ⟨p3, v3, e3, e⟩ := pB_inr e
    simp only [Sum.inr.injEq, Prod.mk.injEq] at e
    obtain ⟨rfl, rfl⟩ := e
    exact dp_2 (hS _ _ _ e2) (hS _ _ _ e3)
  split at e
  · exact key _ e
  · split at e
    · exact key _ e
    · split at e
      · exact key _ e
      · simp at e
theorem pBt_d {S C B : Nat → pO pV} (hS : PD al S) (hC : PD al C) (hB : PD al B) {o : Nat} : PD al (pBt T S C B o) := fun p q v e => by
  unfold pBt pNt at e
  split at e
  · split at e
    · obtain ⟨p3, v3, e3, e⟩ := pB_inr e
      simp only [Sum.inr.injEq, Prod.mk.injEq] at e
      obtain ⟨rfl, rfl⟩ := e
      intro a a' b b' h1 h2
      show 1 - v3 a b = 1 - v3 a' b'
      rw [hB _ _ _ e3 a a' b b' h1 h2]
    · simp at e
  · split at e
    · exact pPa_d hC _ _ _ e
    · exact pCm_d hS _ _ _ e
theorem pC_d {B : Nat → pO pV} (hB : PD al B) : PD al (pC T B) := pWq_d (pWq_d hB)
theorem pSt_d {o : Nat} {X : (Nat → pO pV) × (Nat → pO pV)} (h1 : PD al X.1) (h2 : PD al X.2) : PD al (pSt T al o X).1 ∧ PD al (pSt T al o X).2 := by
  have s : PD al (pSt T al o X).1 := pLq_d (pLq_d (pU_d h1 (pC_d h2)))
  exact ⟨s, pBt_d s (pC_d h2) h2⟩
theorem pLv_d : ∀ r, PD al (pLv T al r).1 ∧ PD al (pLv T al r).2
  | 0 => pSt_d (fun p q v e => by simp at e) (fun p q v e => by simp at e)
  | r + 1 => pSt_d (pLv_d r).1 (pLv_d r).2
end
/-! what is seen, put back, kept, right -/
def sN (st : lS) (l : Nat) (a : Nat → Int32) : Int32 := match st.1 (4 + l) with
  | none => 0
  | some x => x.2 a a
def sO (st : lS) (l : Nat) (b f : Nat → Int32) : Int32 := match st.1 l with
  | none => b l
  | some x => x.2 b f
def sK (st : lS) (l : Nat) (a : Nat → Int32) : Int32 := if st.2.1 l = true then a l else 0
def sR (st : lS) (b f : Nat → Int32) : Bool := st.2.2.1.all fun x => !decide (x.2 b f = 0)
theorem ML.dp {m : aM} {st : lS} (h : ML m st) : (∀ (l : Nat) (x : Nat × pV), l < 8 → st.1 l = some x → dp (!decide (l < 4)) x.2) ∧ ∀ (i : Nat) (x : Nat × pV), st.2.2.1[i]? = some x → dp false x.2 := by
  rcases h.2.2.2.2 with ⟨_, rfl⟩ | ⟨_, T, n, hT, ok, _⟩
  · refine ⟨fun l x hl hx => ?_, fun i x hx => by simp [stD] at hx⟩
    simp only [stD, Option.some.injEq] at hx
    subst hx
    intro a a' b b' h1 h2
    by_cases c : l < 4
    · simp only [c, if_true, decide_true, Bool.not_true, true_implies] at h2 ⊢
      exact h2 l c
    · simp only [c, if_false]
      exact h1 (l - 4) (by omega)
  · refine ⟨fun l x hl hx => ?_, fun i x hx => ?_⟩
    · obtain ⟨_, q, e⟩ := ok.2.2.1 l x hl hx
      have e4 : decide (nI l < 4) = decide (l < 4) := by
        by_cases c : l < 4
        · simp [c, show nI l < 4 from nI_lt (b := 4) c (by decide)]
        · simp [c, show ¬ nI l < 4 from nI_nlt (b := 4) (by omega) (by omega)]
      rw [e4] at e
      exact (pLv_d 6).1 _ _ _ e
    · obtain ⟨_, q, e⟩ := ok.2.2.2 i x hx
      exact pC_d (pLv_d 6).2 _ _ _ e
theorem sN_cg {m : aM} {st : lS} (h : ML m st) {l : Nat} (hl : l < 4) {a a' : Nat → Int32} (e : ∀ j, j < 4 → a j = a' j) : sN st l a = sN st l a' := by
  unfold sN
  cases z : st.1 (4 + l) with
  | none => rfl
  | some x => exact h.dp.1 (4 + l) x (by omega) z a a' a a' e (fun _ => e)
theorem sO_cg {m : aM} {st : lS} (h : ML m st) {l : Nat} (hl : l < 4) {b b' f f' : Nat → Int32} (e : ∀ j, j < 4 → b j = b' j) (e' : ∀ j, j < 4 → f j = f' j) : sO st l b f = sO st l b' f' := by
  unfold sO
  cases z : st.1 l with
  | none => exact e l hl
  | some x => exact h.dp.1 l x (by omega) z b b' f f' e (fun _ => e')
theorem sK_cg {st : lS} {l : Nat} (hl : l < 4) {a a' : Nat → Int32} (e : ∀ j, j < 4 → a j = a' j) : sK st l a = sK st l a' := by
  unfold sK
  rw [e l hl]
theorem sR_cg {m : aM} {st : lS} (h : ML m st) {b b' f f' : Nat → Int32} (e : ∀ j, j < 4 → b j = b' j) (e' : ∀ j, j < 4 → f j = f' j) : sR st b f = sR st b' f' := by
  unfold sR
  rw [Bool.eq_iff_iff, List.all_eq_true, List.all_eq_true]
  have key : ∀ x ∈ st.2.2.1, x.2 b f = x.2 b' f' := fun x hx => by
    obtain ⟨i, hi⟩ := List.mem_iff_getElem?.mp hx
    exact h.dp.2 i x hi b b' f f' e (fun _ => e')
  exact ⟨fun z x hx => by rw [← key x hx]; exact z x hx, fun z x hx => by rw [key x hx]; exact z x hx⟩
