/-! RULES 5: Object(), Math, arraycopy, throw, catch, old things -/
section
variable {K : aK} {M M' : aMI} {d bc bs pc bc' bs' : Nat} {L S av rest : List Value} {h : aH} {Q : aQ}
theorem a_catS {K : aK} {ρ : Nat → Nat} (S : List Value) : ((S.map (a_tr K ρ)).map fun v => v.category).sum = (S.map fun v => v.category).sum := by
  rw [List.map_map, show ((fun v => v.category) ∘ a_tr K ρ) = fun v : Value => v.category from funext fun v => a_tr_cat K ρ v]
theorem g_obj {index a : Nat} (hd : decode M.2.1 pc = .ok (.invokespecial index, 3)) (hl : Cond.methodLink M.1 index objectInit ∈ a_w0) (h1 : Cond.instanceMethod objectInit ∈ a_w0) (h2 : Cond.code objectInit ⟨#[0xb1]⟩ 1 none ∈ a_w0) (hc : (S.map fun v => v.category).sum ≤ 8) (k : G K M (d + 1) bc bs (pc + 3) L S h Q) : G K M (d + 1) bc bs pc L (.ref a :: S) h Q := by
  intro p e s m args below meth c ρ0 z0 mc ms C ρ H locs cells slots ls g1 g2 g3 g4 g5 g6 g7 g8 g9
  have ht := C.2.2.2.2.2.1
  exact W.objInit C.1 C.2.1 C.2.2.2.1 (ht _ hl) (ht _ h1) (ht _ h2) rfl (by rw [C.2.2.1]; exact g6.1) rfl hd (show 1 ≤ d + 1 by omega) (by
    show 2 * 0 + ((S.map (a_tr K ρ)).map fun v => v.category).sum + 12 ≤ 64 * (d + 1)
    rw [a_catS]; omega) (k p e s m args below meth c ρ0 z0 mc ms C ρ H locs cells slots ls g1 g2 g3 g4 (sc_tl g5) g6 g7 g8 g9)
def a_mw (own : String) (index : Nat) (y : MethodName) (cc : ByteArray) : Prop := Cond.methodLink own index y ∈ a_w0 ∧ Cond.static y ∈ a_w0 ∧ Cond.initialized "java/lang/Math" ∈ a_w0 ∧ Cond.code y cc 2 (some .int) ∈ a_w0
theorem g_max {index : Nat} {x y : Int32} (hd : decode M.2.1 pc = .ok (.invokestatic index, 3)) (hw : a_mw M.1 index Lib.Math.max.name Lib.Math.max.code) (hc : (S.map fun v => v.category).sum ≤ 8) (k : G K M (d + 1) bc bs (pc + 3) L (.int (if x < y then y else x) :: S) h Q) : G K M (d + 1) bc bs pc L (.int y :: .int x :: S) h Q := by
  intro p e s m args below meth c ρ0 z0 mc ms C ρ H locs cells slots ls g1 g2 g3 g4 g5 g6 g7 g8 g9
  have ht := C.2.2.2.2.2.1
  obtain ⟨w1, w2, w3, w4⟩ := hw
  exact va_mmax C.1 C.2.1 (by rw [C.2.2.1]; exact g6.1.symm) C.2.2.2.1 (ht _ w1) (ht _ w2) (ht _ w3) (ht _ w4) (show 1 ≤ d + 1 by omega) (by rw [a_catS]; show _ ≤ 64 * (d + 1); omega) (show cells ≤ mc by omega) (show slots ≤ ms by omega) hd (k p e s m args below meth c ρ0 z0 mc ms C ρ H locs cells slots ls g1 g2 g3 g4 (sc_co (by trivial) (sc_tl (sc_tl g5))) g6 g7 g8 g9)
theorem g_min {index : Nat} {x y : Int32} (hd : decode M.2.1 pc = .ok (.invokestatic index, 3)) (hw : a_mw M.1 index Lib.Math.min.name Lib.Math.min.code) (hc : (S.map fun v => v.category).sum ≤ 8) (k : G K M (d + 1) bc bs (pc + 3) L (.int (if y < x then y else x) :: S) h Q) : G K M (d + 1) bc bs pc L (.int y :: .int x :: S) h Q := by
  intro p e s m args below meth c ρ0 z0 mc ms C ρ H locs cells slots ls g1 g2 g3 g4 g5 g6 g7 g8 g9
  have ht := C.2.2.2.2.2.1
  obtain ⟨w1, w2, w3, w4⟩ := hw
  exact va_mmin C.1 C.2.1 (by rw [C.2.2.1]; exact g6.1.symm) C.2.2.2.1 (ht _ w1) (ht _ w2) (ht _ w3) (ht _ w4) (show 1 ≤ d + 1 by omega) (by rw [a_catS]; show _ ≤ 64 * (d + 1); omega) (show cells ≤ mc by omega) (show slots ≤ ms by omega) hd (k p e s m args below meth c ρ0 z0 mc ms C ρ H locs cells slots ls g1 g2 g3 g4 (sc_co (by trivial) (sc_tl (sc_tl g5))) g6 g7 g8 g9)
/-- System.arraycopy between int arrays -/
def a_yw (own : String) (index : Nat) : Prop := Cond.methodLink own index arraycopyName ∈ a_w0 ∧ Cond.native arraycopyName ∈ a_w0 ∧ Cond.static arraycopyName ∈ a_w0 ∧ Cond.initialized "java/lang/System" ∈ a_w0
abbrev h_f (h : aH) (a : Nat) (f : Nat → Int32) : aH := (h.1, fun b j => if b = a then f j else h.2 b j)
theorem g_copy {index a b na nb : Nat} {sp dp n : Int32} (hd : decode M.2.1 pc = .ok (.invokestatic index, 3)) (hw : a_yw M.1 index) (ha : h.1.2.1 a = (0, na)) (hb : h.1.2.1 b = (0, nb)) (n1 : ¬ sp < 0) (n2 : ¬ dp < 0) (n3 : ¬ n < 0) (n4 : sp.toNatClampNeg + n.toNatClampNeg ≤ na) (n5 : dp.toNatClampNeg + n.toNatClampNeg ≤ nb) (hc : (S.map fun v => v.category).sum ≤ 8)
    (k : G K M (d + 1) bc bs (pc + 3) L S (h_f h b (va_cpy (h.2 a) (h.2 b) sp.toNatClampNeg dp.toNatClampNeg n.toNatClampNeg)) Q) : G K M (d + 1) bc bs pc L (.int n :: .int dp :: .ref b :: .int sp :: .ref a :: S) h Q := by
  intro p e s m args below meth c ρ0 z0 mc ms C ρ H locs cells slots ls g1 g2 g3 g4 g5 g6 g7 g8 g9
  have ht := C.2.2.2.2.2.1
  obtain ⟨w1, w2, w3, w4⟩ := hw
  have ha' : a < h.1.1 := g5 (.ref a) (by simp)
  have hb' : b < h.1.1 := g5 (.ref b) (by simp)
  refine va_copyi (D := K.1) (cl := a_cl) (tys := a_tys K) (ws := a_ws K ρ h) (ty := .int) C.1 C.2.1 (by rw [C.2.2.1]; exact g6.1.symm) C.2.2.2.1 (ht _ w1) (ht _ w2) (ht _ w3) (ht _ w4) C.2.2.2.2.2.2.2.2.2.1.1 g1.1 g1.2.1 g7 a b 0 0 (by rw [a_ws_get ha', a_ce_i ha (by decide)]) (by rw [a_ws_get hb', a_ce_i hb (by decide)]) (a_tys_get (by decide)) (a_tys_get (by decide)) rfl n1 n2 n3 n4 n5 (fun _ _ => rfl) (show 1 ≤ d + 1 by omega) (by
    rw [a_catS]
    have : nativeFrameWords "java/lang/System" "arraycopy" 5 ≤ 40 := by decide +kernel
    show _ ≤ 64 * (d + 1)
    omega) hd (fun H1 locs1 q1 q2 q3 => ?_)
  have hset : (a_ws K ρ h).set b (ρ b, .inl (K.2.1 0, nb, .inl (va_cpy (h.2 a) (h.2 b) sp.toNatClampNeg dp.toNatClampNeg n.toNatClampNeg))) = a_ws K ρ (h_f h b (va_cpy (h.2 a) (h.2 b) sp.toNatClampNeg dp.toNatClampNeg n.toNatClampNeg)) := by
    rw [← a_ws_set (h := h) (h' := h_f h b (va_cpy (h.2 a) (h.2 b) sp.toNatClampNeg dp.toNatClampNeg n.toNatClampNeg)) (a := b) rfl (fun b' hb' => a_ce_eq rfl (by funext j; simp [hb']) rfl rfl), a_ce_i (h := h_f h b (va_cpy (h.2 a) (h.2 b) sp.toNatClampNeg dp.toNatClampNeg n.toNatClampNeg)) hb (by decide)]
    simp
  rw [hset] at q1 q2
  exact k p e s m args below meth c ρ0 z0 mc ms C ρ H1 locs1 cells slots ls ⟨q1, q2, g1.2.2⟩ g2 g3 g4 (sc_tl (sc_tl (sc_tl (sc_tl (sc_tl g5))))) g6 q3 g8 g9
/-- old things: the script -/
theorem g_sld {i : Int32} (hlaw : M.2.2.2.2.1.name = "law") (hd : decode M.2.1 pc = .ok (.iaload, 1)) (hi : vp_in i K.2.2.2.2.1) (k : G K M d bc bs (pc + 1) L (.int (K.2.2.2.2.2.1 i.toNatClampNeg) :: S) h Q) : G K M d bc bs pc L (.int i :: .float 0 :: S) h Q := by
  intro p e s m args below meth c ρ0 z0 mc ms C ρ H locs cells slots ls g1 g2 g3 g4 g5 g6 g7 g8 g9
  obtain ⟨x1, x2, x3⟩ := C.2.2.2.2.2.2.2.2.2.2 hlaw
  exact va_sld (b := K.2.2.2.1 0) C.1 C.2.1 x1 x2 (Nat.not_le.mpr x3) g7 hi hd (k p e s m args below meth c ρ0 z0 mc ms C ρ H locs cells slots ls g1 g2 g3 g4 (sc_co (by trivial) (sc_tl (sc_tl g5))) g6 g7 g8 g9)
theorem g_slen (hlaw : M.2.2.2.2.1.name = "law") (hd : decode M.2.1 pc = .ok (.arraylength, 1)) (k : G K M d bc bs (pc + 1) L (.int (Int32.ofNat K.2.2.2.2.1) :: S) h Q) : G K M d bc bs pc L (.float 0 :: S) h Q := by
  intro p e s m args below meth c ρ0 z0 mc ms C ρ H locs cells slots ls g1 g2 g3 g4 g5 g6 g7 g8 g9
  obtain ⟨x1, x2, x3⟩ := C.2.2.2.2.2.2.2.2.2.2 hlaw
  exact va_slen (b := K.2.2.2.1 0) C.1 C.2.1 x1 x2 (Nat.not_le.mpr x3) g7 hd (k p e s m args below meth c ρ0 z0 mc ms C ρ H locs cells slots ls g1 g2 g3 g4 (sc_co (by trivial) (sc_tl g5)) g6 g7 g8 g9)
/-- the table of powers -/
theorem g_pow {index : Nat} (hd : decode M.2.1 pc = .ok (.getstatic index, 3)) (hl : Cond.fieldLink M.1 index R_Pla "POWERS" "[I" ∈ a_w0) (k : G K M d bc bs (pc + 3) L (.float 200 :: S) h Q) : G K M d bc bs pc L S h Q := by
  intro p e s m args below meth c ρ0 z0 mc ms C ρ H locs cells slots ls g1 g2 g3 g4 g5 g6 g7 g8 g9
  obtain ⟨-, -, -, -, -, -, -, -, -, -, -, v1, -⟩ := C.2.2.2.2.2.2.2.2.2.1
  exact va_gets C.1 C.2.1 v1 g7 C.2.2.2.1 (C.2.2.2.2.2.1 _ hl) (fun _ q => q) hd (k p e s m args below meth c ρ0 z0 mc ms C ρ H locs cells slots ls g1 g2 g3 g4 (sc_co (by trivial) g5) g6 g7 g8 g9)
theorem g_powlen (hd : decode M.2.1 pc = .ok (.arraylength, 1)) (k : G K M d bc bs (pc + 1) L (.int 4 :: S) h Q) : G K M d bc bs pc L (.float 200 :: S) h Q := by
  intro p e s m args below meth c ρ0 z0 mc ms C ρ H locs cells slots ls g1 g2 g3 g4 g5 g6 g7 g8 g9
  obtain ⟨-, -, -, -, -, -, -, -, -, -, -, -, v1, -⟩ := C.2.2.2.2.2.2.2.2.2.1
  exact va_tlen C.1 C.2.1 v1 g7 rfl hd (k p e s m args below meth c ρ0 z0 mc ms C ρ H locs cells slots ls g1 g2 g3 g4 (sc_co (by trivial) (sc_tl g5)) g6 g7 g8 g9)
theorem g_powld {i : Int32} (hd : decode M.2.1 pc = .ok (.iaload, 1)) (hi : vp_in i 4) (k : G K M d bc bs (pc + 1) L (.int (a_pow i.toNatClampNeg) :: S) h Q) : G K M d bc bs pc L (.int i :: .float 200 :: S) h Q := by
  intro p e s m args below meth c ρ0 z0 mc ms C ρ H locs cells slots ls g1 g2 g3 g4 g5 g6 g7 g8 g9
  obtain ⟨-, -, -, -, -, -, -, -, -, -, -, -, v1, -⟩ := C.2.2.2.2.2.2.2.2.2.1
  exact va_ti C.1 C.2.1 v1 g7 hi rfl hd (k p e s m args below meth c ρ0 z0 mc ms C ρ H locs cells slots ls g1 g2 g3 g4 (sc_co (by trivial) (sc_tl (sc_tl g5))) g6 g7 g8 g9)
/-- a String constant -/
theorem g_str {index k : Nat} {f : UInt32} {tx : String} (hd : decode M.2.1 pc = .ok (.ldc index, 2)) (hk : a_S[k]? = some (M.1, index, tx)) (hf : f.toNat = k + 1) (k' : G K M d bc bs (pc + 2) L (.float f :: S) h Q) : G K M d bc bs pc L S h Q := by
  intro p e s m args below meth c ρ0 z0 mc ms C ρ H locs cells slots ls g1 g2 g3 g4 g5 g6 g7 g8 g9
  have kk := k' p e s m args below meth c ρ0 z0 mc ms C ρ H locs cells slots ls g1 g2 g3 g4 (sc_co (by trivial) g5) g6 g7 g8 g9
  rw [List.map_cons, show a_tr K ρ (.float f) = .ref (K.2.2.2.1 (k + 1)) by simp [a_tr, hf]] at kk
  exact va_ldcS C.1 C.2.1 C.2.2.2.1 (C.2.2.2.2.2.2.2.2.2.1.2.2.2.1 k _ hk) hd kk
/-- throw new E("text") -/
def a_tl (own : String) (ik ic : Nat) (cls : String) (names : List String) : Prop := Bundle.fit cls = true ∧ (∀ n ∈ names, Bundle.fit n = true) ∧ Cond.classLink own ik cls ∈ a_w0 ∧ Cond.initialized cls ∈ a_w0 ∧ (∀ w ∈ vx_atS own ic cls names, w ∈ a_w0 ∨ w ∈ a_N) ∧ (∀ w ∈ Cond.classLink own ik cls :: Cond.initialized cls :: vx_atS own ic cls names, vx_ot w = true) ∧ names.length = 2
theorem a_isN_tab {w : Cond} (h : w ∈ a_N) : w.onTables = true := by
  have hi := (List.mem_filter.mp h).2
  cases w <;> simp only [a_isN] at hi <;> first | rfl | exact absurd hi (by decide)
theorem a_kept {K : aK} {ρ : Nat → Nat} {h : aH} {H H1 : Heap} (g : a_R K ρ h H) (hq : ∀ q : Nat, q < H.size → H1[q]? = H[q]?) : a_R K ρ h H1 :=
  ⟨g.1.kept (fun k q hk => hq q.1 ((g.1 k q hk).lt)), g.2⟩
theorem g_throw {ik is ic k : Nat} {cls tx : String} {names : List String} (hh : M.2.2.2.2.2 = []) (ht : a_tl M.1 ik ic cls names) (hk : a_S[k]? = some (M.1, is, tx)) (d0 : decode M.2.1 pc = .ok (.new ik, 3)) (d3 : decode M.2.1 (pc + 3) = .ok (.dup, 1)) (d4 : decode M.2.1 (pc + 4) = .ok (.ldc is, 2)) (d6 : decode M.2.1 (pc + 6) = .ok (.invokespecial ic, 3)) (d9 : decode M.2.1 (pc + 9) = .ok (.athrow, 1))
    (hc : 1 ≤ bc) (hs : 6 ≤ bs) (q : Q (.inr cls) h) : G K M (d + 6) bc bs pc L [] h Q := by
  intro p e s m args below meth c ρ0 z0 mc ms C ρ H locs cells slots ls g1 g2 g3 g4 g5 g6 g7 g8 g9
  obtain ⟨t1, t2, t3, t4, t5, t6, t7⟩ := ht
  have hts := C.2.2.2.2.2.1
  have hV := C.2.2.2.2.2.2.2.2.2.1
  have htab := C.2.2.2.2.2.2.2.2.1
  rw [hh, tableOf_nil] at htab
  refine vx_throwS (A := fun q => K.2.2.1 ≤ q) C.1 C.2.1 hV.2.2.1 C.2.2.2.1 t1 t2 (hts _ t3) (hts _ t4) (hV.2.2.2.1 k _ hk) (fun w hw => (t5 w hw).elim (hts w) (fun hn => va_Nw.use (a_isN_tab hn) (hV.2.2.2.2.2.2.1 w hn))) t6 hV.2.2.2.2.1 hV.2.2.2.2.2.1 g7 (by rw [C.2.2.1]; exact g6.1) d0 d3 d4 d6 d9 (fun x hx => by rw [htab] at hx; cases hx) (show names.length + 3 < d + 6 by omega) (show _ ≤ 64 * (d + 6) by simp [t7]; omega) (show cells + 1 ≤ mc by omega) (show slots + 6 ≤ ms by omega) C.2.2.2.2.2.2.1 (fun t hal hz hq => ⟨ρ, h, a_kept g1 hq, g2, g3, ?_, q⟩) g7.2.2 (by omega) (by omega)
  exact ⟨Nat.le_trans g7.1 hz, fun a ha hb => by rw [hq a (Nat.lt_of_lt_of_le ha g7.1)]; exact g7.2.1 a ha hb⟩
theorem g_throwW {ik is ic k : Nat} {cls tx : String} {names : List String} (hh : M.2.2.2.2.2 = []) (ht : a_tl M.1 ik ic cls names) (hk : a_S[k]? = some (M.1, is, tx)) (d0 : decode M.2.1 pc = .ok (.new ik, 3)) (d3 : decode M.2.1 (pc + 3) = .ok (.dup, 1)) (d4 : decode M.2.1 (pc + 4) = .ok (.ldc_w is, 3)) (d6 : decode M.2.1 (pc + 7) = .ok (.invokespecial ic, 3)) (d9 : decode M.2.1 (pc + 10) = .ok (.athrow, 1))
    (hc : 1 ≤ bc) (hs : 6 ≤ bs) (q : Q (.inr cls) h) : G K M (d + 6) bc bs pc L [] h Q := by
  intro p e s m args below meth c ρ0 z0 mc ms C ρ H locs cells slots ls g1 g2 g3 g4 g5 g6 g7 g8 g9
  obtain ⟨t1, t2, t3, t4, t5, t6, t7⟩ := ht
  have hts := C.2.2.2.2.2.1
  have hV := C.2.2.2.2.2.2.2.2.2.1
  have htab := C.2.2.2.2.2.2.2.2.1
  rw [hh, tableOf_nil] at htab
  refine vx_throwSW (A := fun q => K.2.2.1 ≤ q) C.1 C.2.1 hV.2.2.1 C.2.2.2.1 t1 t2 (hts _ t3) (hts _ t4) (hV.2.2.2.1 k _ hk) (fun w hw => (t5 w hw).elim (hts w) (fun hn => va_Nw.use (a_isN_tab hn) (hV.2.2.2.2.2.2.1 w hn))) t6 hV.2.2.2.2.1 hV.2.2.2.2.2.1 g7 (by rw [C.2.2.1]; exact g6.1) d0 d3 d4 d6 d9 (fun x hx => by rw [htab] at hx; cases hx) (show names.length + 3 < d + 6 by omega) (show _ ≤ 64 * (d + 6) by simp [t7]; omega) (show cells + 1 ≤ mc by omega) (show slots + 6 ≤ ms by omega) C.2.2.2.2.2.2.1 (fun t hal hz hq => ⟨ρ, h, a_kept g1 hq, g2, g3, ?_, q⟩) g7.2.2 (by omega) (by omega)
  exact ⟨Nat.le_trans g7.1 hz, fun a ha hb => by rw [hq a (Nat.lt_of_lt_of_le ha g7.1)]; exact g7.2.1 a ha hb⟩
end
