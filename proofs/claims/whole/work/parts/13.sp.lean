/-! CONTRACTS as they are used: Sp: the method answers v over h'; SpX: it throws E over h' -/
def Sp (K : aK) (M : aMI) (d bc bs : Nat) (av : List Value) (h : aH) (v : Option Value) (h' : aH) : Prop := ∀ Q : aQ, Q (.inl v) h' → Run K M d bc bs av h Q
def SpX (K : aK) (M : aMI) (d bc bs : Nat) (av : List Value) (h : aH) (E : String) (h' : aH) : Prop := ∀ Q : aQ, Q (.inr E) h' → Run K M d bc bs av h Q
section
variable {K : aK} {M M' : aMI} {d bc bs pc bc' bs' : Nat} {L S av rest : List Value} {h h' : aH} {Q : aQ}
/-- from the body -/
theorem sp_of {v : Option Value} (ok : a_ok M) (hh : M.2.2.2.2.2 = []) (hl : av.length ≤ M.2.2.1) (hc : ∀ v ∈ av, v.category = 1) (g : ∀ Q : aQ, Q (.inl v) h' → G K M d bc bs 0 (a_L0 M av) [] h Q) : Sp K M d bc bs av h v h' := fun Q hq => run_of ok hh hl hc (g Q hq)
theorem spx_of {E : String} (ok : a_ok M) (hh : M.2.2.2.2.2 = []) (hl : av.length ≤ M.2.2.1) (hc : ∀ v ∈ av, v.category = 1) (g : ∀ Q : aQ, Q (.inr E) h' → G K M d bc bs 0 (a_L0 M av) [] h Q) : SpX K M d bc bs av h E h' := fun Q hq => run_of ok hh hl hc (g Q hq)
theorem sp_ofH {v : Option Value} (ok : a_ok M) (hh : M.2.2.2.2.2 ≠ []) (hl : av.length ≤ M.2.2.1) (hc : ∀ v ∈ av, v.category = 1) (g : ∀ Q : aQ, Q (.inl v) h' → G K M d bc bs 0 (a_L0 M av) [] h Q) : Sp K M d bc bs av h v h' := fun Q hq => run_ofH ok hh hl hc (g Q hq)
theorem Sp.eq {v w : Option Value} {h'' : aH} (s : Sp K M d bc bs av h v h') (e1 : v = w) (e2 : h' = h'') : Sp K M d bc bs av h w h'' := by subst e1; subst e2; exact s
/-- static call -/
theorem g_cs {v : Option Value} {index : Nat} (hd : decode M.2.1 pc = .ok (.invokestatic index, 3)) {nn : Nat} (hl : a_ls M.1 index M' nn) (hlaw : M'.2.2.2.2.1.name ≠ "law") (sp : Sp K M' (d - 1) bc' bs' av h v h') (hn : av.length = nn) (hS : S = av.reverse ++ rest) (hc : (rest.map fun v => v.category).sum ≤ 8) (hav : ∀ v ∈ av, v.category = 1) (h1 : 1 ≤ d) (hbc : bc' ≤ bc) (hbs : bs' ≤ bs)
    (k : G K M d (bc - bc') (bs - bs') (pc + 3) L (v.toList ++ rest) h' Q) : G K M d bc bs pc L S h Q := by
  subst hn
  obtain ⟨d, rfl⟩ : ∃ e, d = e + 1 := ⟨d - 1, by omega⟩
  exact g_invs hd hl hlaw hS hc hav hbc hbs (sp _ k)
theorem g_cv {v : Option Value} {index a ci n : Nat} {T : u_T} {N : Nat} (hd : decode M.2.1 pc = .ok (.invokevirtual index, 3)) {nn : Nat} (hl : a_lv M.1 index M' nn) (hlaw : M'.2.2.2.2.1.name ≠ "law") (hcl : a_cl[ci]? = some (M'.2.2.2.2.1.cls, T, N)) (ha : h.1.2.1 a = (10 + ci, n)) (sp : Sp K M' (d - 1) bc' bs' (.ref a :: av) h v h') (hn : av.length = nn) (hS : S = av.reverse ++ .ref a :: rest) (hc : (rest.map fun v => v.category).sum ≤ 8) (hav : ∀ v ∈ av, v.category = 1) (h1 : 1 ≤ d) (hbc : bc' ≤ bc) (hbs : bs' ≤ bs)
    (k : G K M d (bc - bc') (bs - bs') (pc + 3) L (v.toList ++ rest) h' Q) : G K M d bc bs pc L S h Q := by
  subst hn
  obtain ⟨d, rfl⟩ : ∃ e, d = e + 1 := ⟨d - 1, by omega⟩
  exact g_invv hd hl hlaw hS ha hcl hc hav hbc hbs (sp _ k)
/-- .. that throws, in a method without a table -/
theorem g_csx {E : String} {index : Nat} (hd : decode M.2.1 pc = .ok (.invokestatic index, 3)) {nn : Nat} (hl : a_ls M.1 index M' nn) (hlaw : M'.2.2.2.2.1.name ≠ "law") (sp : SpX K M' (d - 1) bc' bs' av h E h') (hn : av.length = nn) (hS : S = av.reverse ++ rest) (hc : (rest.map fun v => v.category).sum ≤ 8) (hav : ∀ v ∈ av, v.category = 1) (h1 : 1 ≤ d) (hbc : bc' ≤ bc) (hbs : bs' ≤ bs) (hh : M.2.2.2.2.2 = []) (k : Q (.inr E) h') : G K M d bc bs pc L S h Q := by
  subst hn
  obtain ⟨d, rfl⟩ : ∃ e, d = e + 1 := ⟨d - 1, by omega⟩
  exact g_invs hd hl hlaw hS hc hav hbc hbs (sp _ (gx_out hh k))
theorem g_cvx {E : String} {index a ci n : Nat} {T : u_T} {N : Nat} (hd : decode M.2.1 pc = .ok (.invokevirtual index, 3)) {nn : Nat} (hl : a_lv M.1 index M' nn) (hlaw : M'.2.2.2.2.1.name ≠ "law") (hcl : a_cl[ci]? = some (M'.2.2.2.2.1.cls, T, N)) (ha : h.1.2.1 a = (10 + ci, n)) (sp : SpX K M' (d - 1) bc' bs' (.ref a :: av) h E h') (hn : av.length = nn) (hS : S = av.reverse ++ .ref a :: rest) (hc : (rest.map fun v => v.category).sum ≤ 8) (hav : ∀ v ∈ av, v.category = 1) (h1 : 1 ≤ d) (hbc : bc' ≤ bc) (hbs : bs' ≤ bs) (hh : M.2.2.2.2.2 = []) (k : Q (.inr E) h') : G K M d bc bs pc L S h Q := by
  subst hn
  obtain ⟨d, rfl⟩ : ∃ e, d = e + 1 := ⟨d - 1, by omega⟩
  exact g_invv hd hl hlaw hS ha hcl hc hav hbc hbs (sp _ (gx_out hh k))
/-- a constructor -/
theorem g_ci {index a : Nat} (hd : decode M.2.1 pc = .ok (.invokespecial index, 3)) {nn : Nat} (hl : a_li M.1 index M' nn) (sp : Sp K M' (d - 1) bc' bs' (.ref a :: av) h none h') (hn : av.length = nn) (hS : S = av.reverse ++ .ref a :: rest) (hc : (rest.map fun v => v.category).sum ≤ 8) (hav : ∀ v ∈ av, v.category = 1) (h1 : 1 ≤ d) (hbc : bc' ≤ bc) (hbs : bs' ≤ bs)
    (k : G K M d (bc - bc') (bs - bs') (pc + 3) L rest h' Q) : G K M d bc bs pc L S h Q := by
  subst hn
  obtain ⟨d, rfl⟩ : ∃ e, d = e + 1 := ⟨d - 1, by omega⟩
  exact g_invi hd hl hS hc hav hbc hbs (sp _ k)
theorem g_ob {index a : Nat} (hd : decode M.2.1 pc = .ok (.invokespecial index, 3)) (hl : Cond.methodLink M.1 index objectInit ∈ a_w0) (hc : (S.map fun v => v.category).sum ≤ 8) (h1 : 1 ≤ d) (k : G K M d bc bs (pc + 3) L S h Q) : G K M d bc bs pc L (.ref a :: S) h Q := by
  obtain ⟨d, rfl⟩ : ∃ e, d = e + 1 := ⟨d - 1, by omega⟩
  exact g_obj hd hl ob_1 ob_2 hc k
theorem g_mx {index : Nat} {x y : Int32} (hd : decode M.2.1 pc = .ok (.invokestatic index, 3)) (hw : a_mw M.1 index Lib.Math.max.name Lib.Math.max.code) (hc : (S.map fun v => v.category).sum ≤ 8) (h1 : 1 ≤ d) (k : G K M d bc bs (pc + 3) L (.int (if x < y then y else x) :: S) h Q) : G K M d bc bs pc L (.int y :: .int x :: S) h Q := by
  obtain ⟨d, rfl⟩ : ∃ e, d = e + 1 := ⟨d - 1, by omega⟩
  exact g_max hd hw hc k
theorem g_mn {index : Nat} {x y : Int32} (hd : decode M.2.1 pc = .ok (.invokestatic index, 3)) (hw : a_mw M.1 index Lib.Math.min.name Lib.Math.min.code) (hc : (S.map fun v => v.category).sum ≤ 8) (h1 : 1 ≤ d) (k : G K M d bc bs (pc + 3) L (.int (if y < x then y else x) :: S) h Q) : G K M d bc bs pc L (.int y :: .int x :: S) h Q := by
  obtain ⟨d, rfl⟩ : ∃ e, d = e + 1 := ⟨d - 1, by omega⟩
  exact g_min hd hw hc k
theorem g_cp {index a b na nb : Nat} {sp dp n : Int32} (hd : decode M.2.1 pc = .ok (.invokestatic index, 3)) (hw : a_yw M.1 index) (ha : h.1.2.1 a = (0, na)) (hb : h.1.2.1 b = (0, nb)) (n1 : ¬ sp < 0) (n2 : ¬ dp < 0) (n3 : ¬ n < 0) (n4 : sp.toNatClampNeg + n.toNatClampNeg ≤ na) (n5 : dp.toNatClampNeg + n.toNatClampNeg ≤ nb) (hc : (S.map fun v => v.category).sum ≤ 8) (h1 : 1 ≤ d)
    (k : G K M d bc bs (pc + 3) L S (h_f h b (va_cpy (h.2 a) (h.2 b) sp.toNatClampNeg dp.toNatClampNeg n.toNatClampNeg)) Q) : G K M d bc bs pc L (.int n :: .int dp :: .ref b :: .int sp :: .ref a :: S) h Q := by
  obtain ⟨d, rfl⟩ : ∃ e, d = e + 1 := ⟨d - 1, by omega⟩
  exact g_copy hd hw ha hb n1 n2 n3 n4 n5 hc k
/-- throw -/
theorem g_th {ik is ic k : Nat} {cls tx : String} {names : List String} (hh : M.2.2.2.2.2 = []) (ht : a_tl M.1 ik ic cls names) (hk : a_S[k]? = some (M.1, is, tx)) (d0 : decode M.2.1 pc = .ok (.new ik, 3)) (d3 : decode M.2.1 (pc + 3) = .ok (.dup, 1)) (d4 : decode M.2.1 (pc + 4) = .ok (.ldc is, 2)) (d6 : decode M.2.1 (pc + 6) = .ok (.invokespecial ic, 3)) (d9 : decode M.2.1 (pc + 9) = .ok (.athrow, 1))
    (h1 : 6 ≤ d) (hc : 1 ≤ bc) (hs : 6 ≤ bs) (q : Q (.inr cls) h) : G K M d bc bs pc L [] h Q := by
  obtain ⟨d, rfl⟩ : ∃ e, d = e + 6 := ⟨d - 6, by omega⟩
  exact g_throw hh ht hk d0 d3 d4 d6 d9 hc hs q
theorem g_thw {ik is ic k : Nat} {cls tx : String} {names : List String} (hh : M.2.2.2.2.2 = []) (ht : a_tl M.1 ik ic cls names) (hk : a_S[k]? = some (M.1, is, tx)) (d0 : decode M.2.1 pc = .ok (.new ik, 3)) (d3 : decode M.2.1 (pc + 3) = .ok (.dup, 1)) (d4 : decode M.2.1 (pc + 4) = .ok (.ldc_w is, 3)) (d6 : decode M.2.1 (pc + 7) = .ok (.invokespecial ic, 3)) (d9 : decode M.2.1 (pc + 10) = .ok (.athrow, 1))
    (h1 : 6 ≤ d) (hc : 1 ≤ bc) (hs : 6 ≤ bs) (q : Q (.inr cls) h) : G K M d bc bs pc L [] h Q := by
  obtain ⟨d, rfl⟩ : ∃ e, d = e + 6 := ⟨d - 6, by omega⟩
  exact g_throwW hh ht hk d0 d3 d4 d6 d9 hc hs q
/-- values may be renamed -/
theorem G.v {x y : Int32} (e : x = y) (k : G K M d bc bs pc L (.int y :: S) h Q) : G K M d bc bs pc L (.int x :: S) h Q := by subst e; exact k
theorem G.hp {h' : aH} (e : h = h') (k : G K M d bc bs pc L S h' Q) : G K M d bc bs pc L S h Q := by subst e; exact k
theorem G.lc {L' : List Value} (e : L = L') (k : G K M d bc bs pc L' S h Q) : G K M d bc bs pc L S h Q := by subst e; exact k
end
/-- some locals are forgotten -/
theorem G.wk {K : aK} {M : aMI} {d bc bs pc : Nat} {L L' S : List Value} {h : aH} {Q : aQ} (hw : ∀ (j : Nat) (v : Value), L'[j]? = some v → (∃ x, v = .double x) ∨ L[j]? = some v) (k : G K M d bc bs pc L' S h Q) : G K M d bc bs pc L S h Q := by
  intro p e s m args below meth c ρ0 z0 mc ms C ρ H locs cells slots ls g1 g2 g3 g4 g5 g6 g7 g8 g9
  refine k p e s m args below meth c ρ0 z0 mc ms C ρ H locs cells slots ls g1 g2 g3 (fun v hv => ?_) g5 ⟨g6.1, g6.2.1, fun q hq => ?_⟩ g7 g8 g9
  · obtain ⟨j, hj⟩ := List.getElem?_of_mem hv
    rcases hw j v hj with ⟨x, rfl⟩ | h9
    · trivial
    · exact g4 v (List.mem_of_getElem? h9)
  · obtain ⟨j, v, h1, h2, rfl⟩ := a_pl_mem _ _ _ hq
    rcases hw j v h1 with ⟨x, rfl⟩ | h9
    · exact absurd rfl (h2 x)
    · exact g6.2.2 _ (a_pl_in (K := K) (ρ := ρ) L 0 j v h9 h2)
set_option maxRecDepth 100000 in
theorem tl_iae : a_tl R_Led 78 82 "java/lang/IllegalArgumentException" ["java/lang/RuntimeException", "java/lang/Exception"] := by
  refine ⟨by decide +kernel, by decide +kernel, a_w0_in (List.mem_append_right _ (List.mem_of_getElem? (i := 528) (by decide +kernel))) rfl, a_w0_in (List.mem_append_right _ (List.mem_of_getElem? (i := 13) (by decide +kernel))) rfl, ?_, by decide +kernel, rfl⟩
  have h : ∀ w ∈ vx_atS R_Led 82 "java/lang/IllegalArgumentException" ["java/lang/RuntimeException", "java/lang/Exception"], w ∈ tables_1 ∧ (goodWord w = true ∨ a_isN w = true) := by decide +kernel
  exact fun w hw => (h w hw).2.imp (fun g => a_w0_in (List.mem_append_right _ (h w hw).1) g) (fun g => List.mem_filter.mpr ⟨List.mem_append_right _ (h w hw).1, g⟩)
set_option maxRecDepth 100000 in
theorem tl_ise : a_tl R_Led 88 92 "java/lang/IllegalStateException" ["java/lang/RuntimeException", "java/lang/Exception"] := by
  refine ⟨by decide +kernel, by decide +kernel, a_w0_in (List.mem_append_right _ (List.mem_of_getElem? (i := 597) (by decide +kernel))) rfl, a_w0_in (List.mem_append_right _ (List.mem_of_getElem? (i := 14) (by decide +kernel))) rfl, ?_, by decide +kernel, rfl⟩
  have h : ∀ w ∈ vx_atS R_Led 92 "java/lang/IllegalStateException" ["java/lang/RuntimeException", "java/lang/Exception"], w ∈ tables_1 ∧ (goodWord w = true ∨ a_isN w = true) := by decide +kernel
  exact fun w hw => (h w hw).2.imp (fun g => a_w0_in (List.mem_append_right _ (h w hw).1) g) (fun g => List.mem_filter.mpr ⟨List.mem_append_right _ (h w hw).1, g⟩)
set_option maxRecDepth 100000 in
theorem tl_iob : a_tl R_Led 319 323 "java/lang/IndexOutOfBoundsException" ["java/lang/RuntimeException", "java/lang/Exception"] := by
  refine ⟨by decide +kernel, by decide +kernel, a_w0_in (List.mem_append_right _ (List.mem_of_getElem? (i := 953) (by decide +kernel))) rfl, a_w0_in (List.mem_append_right _ (List.mem_of_getElem? (i := 23) (by decide +kernel))) rfl, ?_, by decide +kernel, rfl⟩
  have h : ∀ w ∈ vx_atS R_Led 323 "java/lang/IndexOutOfBoundsException" ["java/lang/RuntimeException", "java/lang/Exception"], w ∈ tables_1 ∧ (goodWord w = true ∨ a_isN w = true) := by decide +kernel
  exact fun w hw => (h w hw).2.imp (fun g => a_w0_in (List.mem_append_right _ (h w hw).1) g) (fun g => List.mem_filter.mpr ⟨List.mem_append_right _ (h w hw).1, g⟩)
