/-! THE LAW'S CASES (made by wip/gen/law.py) -/
/-- the script's int at i + j -/
def scr (K : aK) (i j : Int32) : Int32 := K.2.2.2.2.2.1 (i + j).toNatClampNeg
def bz (x : Int32) : Int32 := if x = 0 then 0 else 1
/-- the law's locals -/
abbrev lwL (i : Int32) (u v : Value) : List Value := [.float 0, .ref 0, .ref 242, .ref 8692, .int i, u, v]
def rdO (K : aK) (i : Int32) : Prop := ∀ j : Int32, 0 ≤ j.toInt → j.toInt ≤ 6 → vp_in (i + j) K.2.2.2.2.1
def LK (K : aK) (d n : Nat) (i : Int32) (Q : aQ) : Prop := ∀ g m bc bs, LI n g m bc bs → G K M_Law_law (d + 2) bc bs 2591 (lwL i (.double 0) (.double 0)) [] (g, m) Q
section
variable {K : aK} {M M' : aMI} {d bc bs pc bc' bs' : Nat} {L S av rest : List Value} {h : aH} {Q : aQ} {P : Option Value → aH → Prop}
theorem g_rd {i j : Int32} {n : Int} (d0 : decode M_Law_law.2.1 pc = .ok (.aload_n 0, 1)) (d1 : decode M_Law_law.2.1 (pc + 1) = .ok (.iload 4, 2)) (d3 : decode M_Law_law.2.1 (pc + 3) = .ok (.iconst n, 1)) (d4 : decode M_Law_law.2.1 (pc + 4) = .ok (.iadd, 1)) (d5 : decode M_Law_law.2.1 (pc + 5) = .ok (.iaload, 1)) (hj : Int32.ofInt n = j) (h0 : L[0]? = some (.float 0)) (h4 : L[4]? = some (.int i)) (hv : vp_in (i + j) K.2.2.2.2.1) (k : G K M_Law_law d bc bs (pc + 6) L (.int (scr K i j) :: S) h Q) : G K M_Law_law d bc bs pc L S h Q := by
  refine g_aload_nF d0 rfl h0 ?_
  refine g_iload d1 h4 ?_
  refine g_iconst d3 hj ?_
  refine g_iadd d4 ?_
  exact g_sld rfl d5 hv k
theorem g_rdb {i j : Int32} {n : Int} (d0 : decode M_Law_law.2.1 pc = .ok (.aload_n 0, 1)) (d1 : decode M_Law_law.2.1 (pc + 1) = .ok (.iload 4, 2)) (d3 : decode M_Law_law.2.1 (pc + 3) = .ok (.bipush n, 2)) (d4 : decode M_Law_law.2.1 (pc + 5) = .ok (.iadd, 1)) (d5 : decode M_Law_law.2.1 (pc + 6) = .ok (.iaload, 1)) (hj : (Int8.ofInt n).toInt32 = j) (h0 : L[0]? = some (.float 0)) (h4 : L[4]? = some (.int i)) (hv : vp_in (i + j) K.2.2.2.2.1) (k : G K M_Law_law d bc bs (pc + 7) L (.int (scr K i j) :: S) h Q) : G K M_Law_law d bc bs pc L S h Q := by
  refine g_aload_nF d0 rfl h0 ?_
  refine g_iload d1 h4 ?_
  refine g_bipush d3 hj ?_
  refine g_iadd d4 ?_
  exact g_sld rfl d5 hv k
theorem g_bz {x : Int32} (d0 : decode M.2.1 pc = .ok (.ifCond .eq 7, 3)) (d3 : decode M.2.1 (pc + 3) = .ok (.iconst 1, 1)) (d4 : decode M.2.1 (pc + 4) = .ok (.goto 4, 3)) (d7 : decode M.2.1 (pc + 7) = .ok (.iconst 0, 1)) (k : G K M d bc bs (pc + 8) L (.int (bz x) :: S) h Q) : G K M d bc bs pc L (.int x :: S) h Q := by
  refine g_if_eq (tgt := pc + 7) d0 (by omega) (fun c => ?_) (fun c => ?_)
  · refine g_iconst (v := 0) d7 rfl ?_
    refine G.v (y := bz x) (by rw [bz, if_pos c]) k
  · refine g_iconst (v := 1) d3 rfl ?_
    refine g_goto (tgt := pc + 8) d4 (by omega) ?_
    refine G.v (y := bz x) (by rw [bz, if_neg c]) k
theorem G.vl {x y : Int64} (e : x = y) (k : G K M d bc bs pc L (.long y :: S) h Q) : G K M d bc bs pc L (.long x :: S) h Q := by subst e; exact k
theorem g_bl {x : Int32} (d0 : decode M.2.1 pc = .ok (.ifCond .eq 7, 3)) (d3 : decode M.2.1 (pc + 3) = .ok (.lconst 1, 1)) (d4 : decode M.2.1 (pc + 4) = .ok (.goto 4, 3)) (d7 : decode M.2.1 (pc + 7) = .ok (.lconst 0, 1)) (k : G K M d bc bs (pc + 8) L (.long (zL x) :: S) h Q) : G K M d bc bs pc L (.int x :: S) h Q := by
  refine g_if_eq (tgt := pc + 7) d0 (by omega) (fun c => ?_) (fun c => ?_)
  · refine g_lconst (v := 0) d7 rfl ?_
    refine G.vl (y := zL x) (by rw [zL, if_pos c]) k
  · refine g_lconst (v := 1) d3 rfl ?_
    refine g_goto (tgt := pc + 8) d4 (by omega) ?_
    refine G.vl (y := zL x) (by rw [zL, if_neg c]) k
theorem g_hR {index : Nat} (hd : decode M.2.1 pc = .ok (.invokestatic index, 3)) {nn : Nat} (hl : a_lh M.1 index M' nn) (hlaw : M'.2.2.2.2.1.name ≠ "law") (sp : SpR K M' d bc' bs' av h P) (hn : av.length = nn) (hS : S = av.reverse ++ rest) (hc : (rest.map fun v => v.category).sum ≤ 8) (hav : ∀ v ∈ av, v.category = 1) (hbc : bc' ≤ bc) (hbs : bs' ≤ bs)
    (k : ∀ v h', P v h' → G K M (d + 1) (bc - bc') (bs - bs') (pc + 3) L (v.toList ++ rest) h' Q) : G K M (d + 1) bc bs pc L S h Q := by
  subst hn
  exact g_invsh hd hl hlaw hS hc hav hbc hbs (sp _ k)
end
theorem spe_g {K : aK} {M : aMI} {d bc bs : Nat} {av : List Value} {g : aG} {m m' : aM} {o : Option Value ⊕ String} (s : SpE K M d bc bs av (g, m) o (g, m')) : SpG K M d bc bs av (g, m) o m' (fun g' => g' = g) := fun Q hq => s Q (hq g rfl)
theorem co_cs {cs : List String} {r : oX} {v t : Int32} (h : Co cs r v t) (hl : cs.length ≤ 3) : (∃ y, r = .inl y ∧ t = 0 ∧ y = v) ∨ ∃ E, r = .inr E ∧ ¬ t = 0 := by
  cases r with
  | inl y => exact Or.inl ⟨y, rfl, h.1, h.2⟩
  | inr E =>
    obtain ⟨i, h1, h2⟩ := h
    have : i < cs.length := by
      obtain ⟨q, _⟩ := List.getElem?_eq_some_iff.mp h1
      exact q
    refine Or.inr ⟨E, rfl, fun e => ?_⟩
    have := nI_inj (a := i + 1) (b := 0) (by omega) (by omega) (h2.symm.trans e)
    omega
theorem gO_rd {f : Int32 → Int64} {g : aG} {y : Int32} : (gO f g (.inl y)).2.2.2 8692 0 = f y := by simp [gO, a_sj]
theorem gO_1 {f : Int32 → Int64} {g : aG} {r : oX} : (gO f g r).1 = g.1 := by cases r <;> rfl
theorem lgc0 (x : Int64) : lg_cmp x x = 0 := by simp [lg_cmp]
theorem LSy.gO {f : Int32 → Int64} {g : aG} {r : oX} (h : LSy g) : LSy (gO f g r) := h.ex gO_ex.2.1
theorem wqx_ext {w : Nat} {r : oX} {g g' : aG} (h : WQX w r g g') : Ext g g' := by
  cases r with
  | inl y => exact h.1
  | inr E => rw [show g' = g from h]; exact Ext.rf
theorem lw_w {K : aK} {d bc bs pc : Nat} {i : Int32} {u v : Value} {h : aH} {Q : aQ} (k : G K M_Law_law d bc bs pc (lwL i (.double 0) (.double 0)) [] h Q) : G K M_Law_law d bc bs pc (lwL i u v) [] h Q :=
  G.wk (wl_get _ _ (wls (wls (wls (wls (wls (wld (wld wl0)))))))) k
