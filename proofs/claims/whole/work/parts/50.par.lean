/-! THE TEXT OF A LENS: what is read, as functions of the text -/
abbrev pV : Type := (Nat → Int32) → (Nat → Int32) → Int32
abbrev pO (α : Type) : Type := (Int32 × Nat) ⊕ (Nat × α)
def pB {α β : Type} (r : pO α) (k : Nat → α → pO β) : pO β := match r with
  | .inl e => .inl e
  | .inr x => k x.1 x.2
theorem pB_inr {α β : Type} {r : pO α} {k : Nat → α → pO β} {y : Nat × β} (h : pB r k = .inr y) : ∃ p v, r = .inr (p, v) ∧ k p v = .inr y := by
  match r, h with
  | .inl e, h => exact absurd h (by simp [pB])
  | .inr (p, v), h => exact ⟨p, v, rfl, h⟩
theorem pB_inl {α β : Type} {r : pO α} {k : Nat → α → pO β} {y : Int32 × Nat} (h : pB r k = .inl y) : r = .inl y ∨ ∃ p v, r = .inr (p, v) ∧ k p v = .inl y := by
  match r, h with
  | .inl e, h => exact Or.inl (by simpa [pB] using h)
  | .inr (p, v), h => exact Or.inr ⟨p, v, rfl, h⟩
abbrev tD (x : Int32) : Prop := 48 ≤ x ∧ x ≤ 57
abbrev tS (x : Int32) : Prop := 97 ≤ x ∧ x ≤ 122
abbrev tC (x : Int32) : Prop := 65 ≤ x ∧ x ≤ 90
def sk (T : Nat → Int32) : Nat → Nat → Nat
  | 0, p => p
  | N + 1, p => if T p = 32 then sk T N (p + 1) else p
/-- behind the blanks -/
def kp (T : Nat → Int32) (p : Nat) : Nat := sk T 401 p
/-- the letter that stands here -/
def tL (T : Nat → Int32) (p : Nat) : Int32 := if tS (T (p + 1)) ∨ tC (T (p + 1)) then -1 else if 97 ≤ T p ∧ T p ≤ 100 then T p - 97 else if 65 ≤ T p ∧ T p ≤ 68 then T p - 65 + 4 else -1
/-- whether the word that stands here is this one -/
def tW (T : Nat → Int32) : Nat → List Int32 → Bool
  | p, [] => !decide (tS (T p))
  | p, c :: L => decide (T p = c) && tW T (p + 1) L
abbrev wLeast : List Int32 := [108, 101, 97, 115, 116]
abbrev wMost : List Int32 := [109, 111, 115, 116]
abbrev wIf : List Int32 := [105, 102]
abbrev wNot : List Int32 := [110, 111, 116]
abbrev wAnd : List Int32 := [97, 110, 100]
abbrev wOr : List Int32 := [111, 114]
abbrev wKeep : List Int32 := [107, 101, 101, 112]
abbrev wLaw : List Int32 := [108, 97, 119]
/-- a number and where it ends; 10,000 for all above 9,999 -/
def nm (T : Nat → Int32) : Nat → Int32 → Nat → Int32 × Nat
  | 0, v, p => (v, p)
  | N + 1, v, p => if tD (T p) then nm T N (if 10000 < 10 * v + T p - 48 then 10000 else 10 * v + T p - 48) (p + 1) else (v, p)
def pv2 (f : Int32 → Int32 → Int32) (v u : pV) : pV := fun a b => f (v a b) (u a b)
def jn (x l r : Int32) : Int32 := if x = 6 then l + r else if x = 7 then l - r else if x = 8 then l * r else if x = 9 then (if r = 0 then 0 else l / r) else if x = 10 then (if r < l then r else l) else if x = 11 then (if l < r then r else l) else if x = 12 then (if r ≤ l then 0 else 1) else if x = 13 then (if l ≤ r then 0 else 1) else if x = 14 then (if l = r then 1 else 0) else if x = 15 then l &&& r else l ||| r
def pLt (l : Int32) : pV := fun a b => if l < 4 then a l.toNatClampNeg else b (l - 4).toNatClampNeg
def pSg (T : Nat → Int32) (c : Int32) (p : Nat) : pO Unit := if T (kp T p) = c then .inr (kp T p + 1, ()) else .inl (1, kp T p)
def pOp {α : Type} (T : Nat → Int32) (c : Int32) (o p : Nat) (k : Nat → pO α) : pO α := if T (kp T p) = c then (if o < 6 then k (kp T p + 1) else .inl (3, kp T p)) else .inl (1, kp T p)
def pPr (T : Nat → Int32) (S : Nat → pO pV) (x : Int32) (o p : Nat) : pO pV := pOp T 40 o p fun p1 => pB (S p1) fun p2 v => pB (pSg T 44 p2) fun p3 _ => pB (S p3) fun p4 u => pB (pSg T 41 p4) fun p5 _ => .inr (p5, pv2 (jn x) v u)
def pIf (T : Nat → Int32) (S C : Nat → pO pV) (o p : Nat) : pO pV := pOp T 40 o p fun p1 => pB (C p1) fun p2 c => pB (pSg T 44 p2) fun p3 _ => pB (S p3) fun p4 v => pB (pSg T 44 p4) fun p5 _ => pB (S p5) fun p6 u => pB (pSg T 41 p6) fun p7 _ => .inr (p7, fun a b => if c a b = 0 then u a b else v a b)
def pPa (T : Nat → Int32) (S : Nat → pO pV) (c e : Int32) (o p : Nat) : pO pV := pOp T c o p fun p1 => pB (S p1) fun p2 v => pB (pSg T e p2) fun p3 _ => .inr (p3, v)
def pU (T : Nat → Int32) (al : Bool) (S C : Nat → pO pV) (o p : Nat) : pO pV :=
  if tD (T (kp T p)) then (if (nm T 400 0 (kp T p)).1 ≤ 9999 then .inr ((nm T 400 0 (kp T p)).2, fun _ _ => (nm T 400 0 (kp T p)).1) else .inl (2, kp T p))
  else if tL T (kp T p) = -1 then
    (if T (kp T p) = 40 then pPa T S 40 41 o (kp T p)
    else if tW T (kp T p) wLeast = true then pPr T S 10 o (kp T p + 5)
    else if tW T (kp T p) wMost = true then pPr T S 11 o (kp T p + 4)
    else if tW T (kp T p) wIf = true then pIf T S C o (kp T p + 2)
    else .inl (1, kp T p))
  else if al = true ∧ ¬ tL T (kp T p) < 4 then .inl (1, kp T p) else .inr (kp T p + 1, pLt (tL T (kp T p)))
/-- one after the other, told by two signs -/
def pLp (T : Nat → Int32) (X : Nat → pO pV) (c1 x1 c2 x2 : Int32) : Nat → pV → Nat → pO pV
  | 0, _, p => .inl (1, p)
  | N + 1, v, p => if T (kp T p) = c1 then pB (X (kp T p + 1)) fun p' u => pLp T X c1 x1 c2 x2 N (pv2 (jn x1) v u) p'
    else if T (kp T p) = c2 then pB (X (kp T p + 1)) fun p' u => pLp T X c1 x1 c2 x2 N (pv2 (jn x2) v u) p'
    else .inr (kp T p, v)
def pLq (T : Nat → Int32) (X : Nat → pO pV) (c1 x1 c2 x2 : Int32) (p : Nat) : pO pV := pB (X p) fun q v => pLp T X c1 x1 c2 x2 400 v q
/-- one after the other, told by a word -/
def pWp (T : Nat → Int32) (X : Nat → pO pV) (w : List Int32) (x : Int32) : Nat → pV → Nat → pO pV
  | 0, _, p => .inl (1, p)
  | N + 1, v, p => if tW T (kp T p) w = true then pB (X (kp T p + w.length)) fun p' u => pWp T X w x N (pv2 (jn x) v u) p'
    else .inr (kp T p, v)
def pWq (T : Nat → Int32) (X : Nat → pO pV) (w : List Int32) (x : Int32) (p : Nat) : pO pV := pB (X p) fun q v => pWp T X w x 400 v q
def pS (T : Nat → Int32) (U : Nat → pO pV) : Nat → pO pV := pLq T (pLq T U 42 8 47 9) 43 6 45 7
def pC (T : Nat → Int32) (B : Nat → pO pV) : Nat → pO pV := pWq T (pWq T B wAnd 15) wOr 16
def pCm (T : Nat → Int32) (S : Nat → pO pV) (p : Nat) : pO pV := pB (S p) fun p1 v =>
  if T (kp T p1) = 60 then pB (S (kp T p1 + 1)) fun p2 u => .inr (p2, pv2 (jn 12) v u)
  else if T (kp T p1) = 62 then pB (S (kp T p1 + 1)) fun p2 u => .inr (p2, pv2 (jn 13) v u)
  else if T (kp T p1) = 61 then pB (S (kp T p1 + 1)) fun p2 u => .inr (p2, pv2 (jn 14) v u)
  else .inl (1, kp T p1)
def pNt (B : Nat → pO pV) (o q : Nat) : pO pV := if o < 6 then pB (B (q + 3)) fun p' v => .inr (p', fun a b => 1 - v a b) else .inl (3, q)
def pBt (T : Nat → Int32) (S C B : Nat → pO pV) (o p : Nat) : pO pV :=
  if tW T (kp T p) wNot = true then pNt B o (kp T p)
  else if T (kp T p) = 91 then pPa T C 91 93 o (kp T p)
  else pCm T S (kp T p)
def pSt (T : Nat → Int32) (al : Bool) (o : Nat) (X : (Nat → pO pV) × (Nat → pO pV)) : (Nat → pO pV) × (Nat → pO pV) :=
  (pS T (pU T al X.1 (pC T X.2) o), pBt T (pS T (pU T al X.1 (pC T X.2) o)) (pC T X.2) X.2 o)
def pLv (T : Nat → Int32) (al : Bool) : Nat → (Nat → pO pV) × (Nat → pO pV)
  | 0 => pSt T al 6 (fun _ => .inl (1, 0), fun _ => .inl (1, 0))
  | r + 1 => pSt T al (5 - r) (pLv T al r)
/-- a text of n bytes -/
def Tx (T : Nat → Int32) (n : Nat) : Prop := n ≤ 400 ∧ ∀ j, n ≤ j → T j = -1
theorem Tx.lt {T : Nat → Int32} {n p : Nat} (h : Tx T n) {c : Int32} (hc : T p = c) (hn : c ≠ -1) : p < n := Nat.lt_of_not_le (fun q => hn (hc.symm.trans (h.2 p q)))
theorem sk_ge {T : Nat → Int32} : ∀ N p, p ≤ sk T N p
  | 0, _ => Nat.le_refl _
  | N + 1, p => by
    unfold sk
    by_cases h : T p = 32
    · rw [if_pos h]; exact Nat.le_trans (Nat.le_succ p) (sk_ge N (p + 1))
    · rw [if_neg h]; exact Nat.le_refl _
theorem sk_stop {T : Nat → Int32} {n : Nat} (h : Tx T n) : ∀ N p, n < N + p → T (sk T N p) ≠ 32
  | 0, p, hp => by
    unfold sk
    rw [h.2 p (by omega)]
    decide
  | N + 1, p, hp => by
    unfold sk
    by_cases c : T p = 32
    · rw [if_pos c]; exact sk_stop h N (p + 1) (by omega)
    · rw [if_neg c]; exact c
theorem sk_le {T : Nat → Int32} {n : Nat} (h : Tx T n) : ∀ N p B, p ≤ B → n ≤ B → sk T N p ≤ B
  | 0, _, _, hp, _ => hp
  | N + 1, p, B, hp, hn => by
    unfold sk
    by_cases c : T p = 32
    · rw [if_pos c]; exact sk_le h N (p + 1) B (by have := h.lt c (by decide); omega) hn
    · rw [if_neg c]; exact hp
theorem kp_ge {T : Nat → Int32} {p : Nat} : p ≤ kp T p := sk_ge _ _
theorem kp_stop {T : Nat → Int32} {n p : Nat} (h : Tx T n) : T (kp T p) ≠ 32 := sk_stop h _ _ (by have := h.1; omega)
theorem kp_le {T : Nat → Int32} {n p : Nat} (h : Tx T n) (hp : p ≤ n) : kp T p ≤ n := sk_le h _ _ _ hp (Nat.le_refl _)
theorem kp_leB {T : Nat → Int32} {n p B : Nat} (h : Tx T n) (hp : p ≤ B) (hB : n ≤ B) : kp T p ≤ B := sk_le h _ _ _ hp hB
theorem kp_id {T : Nat → Int32} {p : Nat} (h : T p ≠ 32) : kp T p = p := by
  unfold kp sk
  rw [if_neg h]
theorem kp_kp {T : Nat → Int32} {n p : Nat} (h : Tx T n) : kp T (kp T p) = kp T p := kp_id (kp_stop h)
theorem nm_ge {T : Nat → Int32} : ∀ N v p, p ≤ (nm T N v p).2
  | 0, _, _ => Nat.le_refl _
  | N + 1, v, p => by
    unfold nm
    by_cases h : tD (T p)
    · rw [if_pos h]; exact Nat.le_trans (Nat.le_succ p) (nm_ge N _ (p + 1))
    · rw [if_neg h]; exact Nat.le_refl _
theorem Tx.dig {T : Nat → Int32} {n p : Nat} (h : Tx T n) (hd : tD (T p)) : p < n := Nat.lt_of_not_le (fun q => by rw [h.2 p q] at hd; exact absurd hd (by decide))
theorem nm_le {T : Nat → Int32} {n : Nat} (h : Tx T n) : ∀ N v p, p ≤ n → (nm T N v p).2 ≤ n
  | 0, _, _, hp => hp
  | N + 1, v, p, hp => by
    unfold nm
    by_cases c : tD (T p)
    · rw [if_pos c]; exact nm_le h N _ (p + 1) (h.dig c)
    · rw [if_neg c]; exact hp
theorem tW_lt {T : Nat → Int32} {n : Nat} (h : Tx T n) : ∀ (w : List Int32) (p : Nat), (∀ c ∈ w, c ≠ -1) → p ≤ n → tW T p w = true → p + w.length ≤ n
  | [], p, _, hp, _ => by simpa using hp
  | c :: w, p, hw, hp, e => by
    simp only [tW, Bool.and_eq_true, decide_eq_true_eq] at e
    have := tW_lt h w (p + 1) (fun x hx => hw x (List.mem_cons_of_mem _ hx)) (h.lt e.1 (hw c (List.mem_cons_self ..))) e.2
    simp only [List.length_cons]
    omega
