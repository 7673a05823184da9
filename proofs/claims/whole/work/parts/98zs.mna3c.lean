/-! ARRAYS OF ARRAYS OF ARRAYS: in the abstract heap -/
def h_m3 (h : aH) (N A B : Nat) : aH := ((h.1.1 + (1 + N * (1 + A)), fun b => if b < h.1.1 then h.1.2.1 b else if b = h.1.1 then (5, N) else if (b - h.1.1 - 1) % (1 + A) = 0 then (3, A) else (0, B), fun b j => if b < h.1.1 then h.1.2.2.1 b j else if b = h.1.1 then (if j < N then some (h.1.1 + 1 + j * (1 + A)) else none) else if b < h.1.1 + (1 + N * (1 + A)) ∧ (b - h.1.1 - 1) % (1 + A) = 0 then (if j < A then some (b + 1 + j) else none) else none, fun b j => if b < h.1.1 then h.1.2.2.2 b j else 0), fun b j => if b < h.1.1 then h.2 b j else 0)
theorem m3_idx {i N A : Nat} (h0 : i ≠ 0) (hi : i < 1 + N * (1 + A)) : ∃ j r, j < N ∧ r < 1 + A ∧ i = 1 + j * (1 + A) + r ∧ (i - 1) % (1 + A) = r := by
  refine ⟨(i - 1) / (1 + A), (i - 1) % (1 + A), (Nat.div_lt_iff_lt_mul (by omega)).mpr (by omega), Nat.mod_lt _ (by omega), ?_, rfl⟩
  have := Nat.div_add_mod (i - 1) (1 + A)
  rw [Nat.mul_comm] at this
  omega
section
variable {K : aK} {M : aMI} {d bc bs pc : Nat} {L S : List Value} {h : aH} {Q : aQ}
theorem g_mna3 {index N A B : Nat} {n a b : Int32} (hd : decode M.2.1 pc = .ok (.multianewarray index 3, 4)) (hl : Cond.classLink M.1 index ("[" ++ (FieldType.array (.array .int)).toString) ∈ a_w0) (hn : ¬ n < 0) (ha : ¬ a < 0) (hb : ¬ b < 0) (hN : n.toNatClampNeg = N) (hA : a.toNatClampNeg = A) (hB : b.toNatClampNeg = B) (hb1 : N ≤ 60000000) (hb2 : A ≤ 60000000) (hb3 : B ≤ 60000000) (hc : 1 + N * (1 + A) ≤ bc) (hs : N + N * (A + A * B) ≤ bs) (k' : G K M d (bc - (1 + N * (1 + A))) (bs - (N + N * (A + A * B))) (pc + 4) L (.ref h.1.1 :: S) (h_m3 h N A B) Q) : G K M d bc bs pc L (.int b :: .int a :: .int n :: S) h Q := by
  intro p e s m args below meth c ρ0 z0 mc ms C ρ H locs cells slots ls h1 h2' h3 h4 h5 h6 h7 h8 h9
  have VF := C.2.2.2.2.2.2.2.2.2.1
  have hK := VF.1
  subst hN
  subst hA
  subst hB
  generalize eN : n.toNatClampNeg = N at *
  generalize eA : a.toNatClampNeg = A at *
  generalize eB : b.toNatClampNeg = B at *
  intro T hT Xs
  obtain ⟨vm₁, cA, comp, cc, -, fA, fC, fD, X', step⟩ := mna3F Xs C.1 (ty := .int) C.2.2.2.1 (C.2.2.2.2.2.1 _ hl) (va_AOA.use VF.2.2.2.2.2.2.2.2.2.2.1) (va_AOA.use VF.2.2.2.2.2.2.2.2.1) (C.2.2.2.2.2.1 _ ac_int) (g := F0 m pc ls (.int b :: .int a :: .int n :: S.map (a_tr K ρ))) rfl (by rw [C.2.1]; exact hd) rfl hn ha hb (by rw [eN]; omega) (by rw [eA]; omega) (by rw [eB]; show B * 4 ≤ _; omega) (by rw [eB]; omega) rfl rfl (by rw [eN, eA]; show cells + _ ≤ mc; omega) (by rw [eN, eA, eB]; show slots + _ ≤ ms; omega)
  rw [eN, eA, eB] at X' step
  have k5 : cA = K.2.1 5 := Option.some.inj (fA.symm.trans (hK.2 5 _ (a_tys_get (by omega))).2)
  have k3 : comp = K.2.1 3 := Option.some.inj (fC.symm.trans (hK.2 3 _ (a_tys_get (by omega))).2)
  have k0 : cc = K.2.1 0 := Option.some.inj (fD.symm.trans (hK.2 0 _ (a_tys_get (by omega))).2)
  subst k5
  subst k3
  subst k0
  have hTh : (T.setVm vm₁).heap = H := hT
  generalize hF : fill3 (T.setVm vm₁) (K.2.1 5) (K.2.1 3) (K.2.1 0) N A B (defaultValue .int) N = F at X' step
  obtain ⟨f1, f2, -, -⟩ := fill3_facts (T.setVm vm₁) (K.2.1 5) (K.2.1 3) (K.2.1 0) N A B (defaultValue .int) N
  rw [hF, hTh] at f1 f2
  have hold : ∀ x : Nat, x < H.size → F.heap[x]? = H[x]? := fun x hx => by
    have := fill3_old (T.setVm vm₁) (K.2.1 5) (K.2.1 3) (K.2.1 0) N A B (defaultValue .int) (a := x) (by rw [hTh]; exact hx) N
    rw [hF, hTh] at this
    exact this
  have hrow : ∀ j, j < N → F.heap[H.size + 1 + j * (1 + A)]? = some (Jvm.Free.Multi.outerC (K.2.1 3) A (H.size + 1 + j * (1 + A)) A) ∧ ∀ k, k < A → F.heap[H.size + 1 + j * (1 + A) + 1 + k]? = some (Jvm.Free.Multi.innerC (K.2.1 0) B (defaultValue .int)) := fun j hj => by
    have := fill3_row (T.setVm vm₁) (K.2.1 5) (K.2.1 3) (K.2.1 0) N A B (defaultValue .int) N j hj
    rw [hF, hTh] at this
    exact this
  rw [out3_arr] at f2
  let ρ' : Nat → Nat := fun x => if x < h.1.1 then ρ x else H.size + (x - h.1.1)
  have r2 : ∀ x, x < h.1.1 → ρ' x = ρ x := fun x hx => if_pos hx
  have r4 : ∀ i, ρ' (h.1.1 + i) = H.size + i := fun i => by
    show (if h.1.1 + i < h.1.1 then _ else _) = _
    rw [if_neg (by omega), show h.1.1 + i - h.1.1 = i by omega]
  have ew : a_ws K ρ' (h_m3 h N A B) = a_ws K ρ h ++ (List.range (1 + N * (1 + A))).map (fun i => (H.size + i, a_ce K ρ' (h_m3 h N A B) (h.1.1 + i))) := by
    show (List.range (h.1.1 + (1 + N * (1 + A)))).map _ = _
    rw [List.range_add, List.map_append]
    congr 1
    · refine a_ws_old r2 h1.2.2 (fun x hx => ?_) (fun x hx => ?_) (fun x hx => ?_) (fun x hx => ?_)
      · simp [h_m3, hx]
      · funext j; simp [h_m3, hx]
      · funext j; simp [h_m3, hx]
      · funext j; simp [h_m3, hx]
    · rw [List.map_map]
      refine List.map_congr_left fun i hi => ?_
      show (ρ' (h.1.1 + i), _) = _
      rw [r4]
  have cel : ∀ i, i < 1 + N * (1 + A) → va_at K.1 a_cl (H.size + i, a_ce K ρ' (h_m3 h N A B) (h.1.1 + i)) F.heap := fun i hi => by
    by_cases i0 : i = 0
    · subst i0
      have c0 : a_ce K ρ' (h_m3 h N A B) (h.1.1 + 0) = .inl (K.2.1 5, N, .inr (.inr (.inr (.inr (fun j => if j < N then some (H.size + 1 + j * (1 + A)) else none))))) := by
        rw [a_ce_r (t := 5) (n := N) (by simp [h_m3]) (by omega) (by omega)]
        congr 7
        funext j
        simp only [h_m3, Nat.add_zero, Nat.lt_irrefl, if_false, if_true]
        by_cases cj : j < N
        · simp only [cj, if_true, Option.map_some]
          rw [show h.1.1 + 1 + j * (1 + A) = h.1.1 + (1 + j * (1 + A)) by omega, r4]
          congr 1
          omega
        · simp [cj]
      rw [c0]
      show F.heap[H.size + 0]? = _
      rw [Nat.add_zero, f2]
      rfl
    · obtain ⟨j, r, hj, hr, ei, em⟩ := m3_idx i0 hi
      obtain ⟨w1, w2⟩ := hrow j hj
      have mj : j * (1 + A) + (1 + A) ≤ N * (1 + A) := by
        have := Nat.mul_le_mul_right (1 + A) (show j + 1 ≤ N from hj)
        rw [Nat.succ_mul] at this; exact this
      have z1 : h.1.1 + i - h.1.1 - 1 = i - 1 := by omega
      by_cases r0 : r = 0
      · have c0 : a_ce K ρ' (h_m3 h N A B) (h.1.1 + i) = .inl (K.2.1 3, A, .inr (.inr (.inr (.inr (fun k => if k < A then some (H.size + i + 1 + k) else none))))) := by
          rw [a_ce_r (t := 3) (n := A) (by
            show (if h.1.1 + i < h.1.1 then _ else if h.1.1 + i = h.1.1 then _ else if (h.1.1 + i - h.1.1 - 1) % (1 + A) = 0 then _ else _) = _
            rw [if_neg (by omega), if_neg (by omega), z1, em, if_pos r0]) (by omega) (by omega)]
          congr 7
          funext k
          show Option.map ρ' (if h.1.1 + i < h.1.1 then _ else if h.1.1 + i = h.1.1 then _ else if h.1.1 + i < h.1.1 + (1 + N * (1 + A)) ∧ (h.1.1 + i - h.1.1 - 1) % (1 + A) = 0 then _ else _) = _
          rw [if_neg (by omega), if_neg (by omega), z1, em, if_pos ⟨by omega, r0⟩]
          by_cases ck : k < A
          · rw [if_pos ck, if_pos ck, Option.map_some, show h.1.1 + i + 1 + k = h.1.1 + (i + 1 + k) by omega, r4]
            congr 1
            omega
          · rw [if_neg ck, if_neg ck]
            rfl
        rw [c0]
        show F.heap[H.size + i]? = _
        rw [show H.size + i = H.size + 1 + j * (1 + A) by omega, w1, vr_outer]
        rfl
      · have c0 : a_ce K ρ' (h_m3 h N A B) (h.1.1 + i) = .inl (K.2.1 0, B, .inl (fun _ => 0)) := by
          rw [a_ce_i (t := 0) (n := B) (by
            show (if h.1.1 + i < h.1.1 then _ else if h.1.1 + i = h.1.1 then _ else if (h.1.1 + i - h.1.1 - 1) % (1 + A) = 0 then _ else _) = _
            rw [if_neg (by omega), if_neg (by omega), z1, em, if_neg r0]) (by omega)]
          congr 4
          funext k
          simp [h_m3]
          omega
        rw [c0]
        show F.heap[H.size + i]? = _
        rw [show H.size + i = H.size + 1 + j * (1 + A) + 1 + (r - 1) by omega, w2 (r - 1) (by omega)]
        exact congrArg some (arrV_new (K.2.1 0) B (.int 0))
  have nw : ∀ (k9 : Nat) (x : Nat × va_E), ((List.range (1 + N * (1 + A))).map (fun i => (H.size + i, a_ce K ρ' (h_m3 h N A B) (h.1.1 + i))))[k9]? = some x → k9 < 1 + N * (1 + A) ∧ x = (H.size + k9, a_ce K ρ' (h_m3 h N A B) (h.1.1 + k9)) := fun k9 x hx => by
    rw [List.getElem?_map] at hx
    by_cases h9 : k9 < 1 + N * (1 + A)
    · rw [List.getElem?_range h9] at hx
      exact ⟨h9, (Option.some.inj hx).symm⟩
    · rw [List.getElem?_eq_none (by rw [List.length_range]; omega)] at hx
      cases hx
  have aP : va_P K.1 a_cl (a_ws K ρ' (h_m3 h N A B)) F.heap := by
    rw [ew]
    refine va_P.app (h1.1.kept (fun k9 x hx => hold x.1 ((h1.1 k9 x hx).lt))) (fun k9 x hx => ?_)
    obtain ⟨q1, rfl⟩ := nw k9 x hx
    exact cel k9 q1
  have aD : va_D (fun q => K.2.2.1 ≤ q) (a_ws K ρ' (h_m3 h N A B)) := by
    rw [ew]
    refine ⟨fun i j x y hi hj hxy => ?_, fun k9 x hx => ?_⟩
    · by_cases c1 : i < (a_ws K ρ h).length <;> by_cases c2 : j < (a_ws K ρ h).length
      · rw [List.getElem?_append_left c1] at hi
        rw [List.getElem?_append_left c2] at hj
        exact h1.2.1.1 i j x y hi hj hxy
      · rw [List.getElem?_append_left c1] at hi
        rw [List.getElem?_append_right (by omega)] at hj
        have q1 := (h1.1 i x hi).lt
        obtain ⟨_, rfl⟩ := nw _ y hj
        have : x.1 = H.size + (j - (a_ws K ρ h).length) := hxy
        omega
      · rw [List.getElem?_append_right (by omega)] at hi
        rw [List.getElem?_append_left c2] at hj
        have q1 := (h1.1 j y hj).lt
        obtain ⟨_, rfl⟩ := nw _ x hi
        have : H.size + (i - (a_ws K ρ h).length) = y.1 := hxy
        omega
      · rw [List.getElem?_append_right (by omega)] at hi hj
        obtain ⟨_, rfl⟩ := nw _ x hi
        obtain ⟨_, rfl⟩ := nw _ y hj
        have : H.size + (i - (a_ws K ρ h).length) = H.size + (j - (a_ws K ρ h).length) := hxy
        omega
    · by_cases c1 : k9 < (a_ws K ρ h).length
      · rw [List.getElem?_append_left c1] at hx
        exact h1.2.1.2 k9 x hx
      · rw [List.getElem?_append_right (by omega)] at hx
        obtain ⟨_, rfl⟩ := nw _ x hx
        show K.2.2.1 ≤ H.size + _
        have := VF.2.1
        have := h7.1
        omega
  have aR : a_R K ρ' (h_m3 h N A B) F.heap := by
    refine ⟨aP, aD, fun x j y hy => ?_⟩
    show y < h.1.1 + (1 + N * (1 + A))
    simp only [h_m3] at hy
    split at hy
    · have := h1.2.2 x j y hy
      omega
    · split at hy
      · split at hy
        · rename_i hjN
          have := Option.some.inj hy
          have mj : j * (1 + A) + (1 + A) ≤ N * (1 + A) := by
            have := Nat.mul_le_mul_right (1 + A) (show j + 1 ≤ N from hjN)
            rw [Nat.succ_mul] at this; exact this
          omega
        · exact absurd hy (by simp)
      · split at hy
        · rename_i n1 n2 hx
          split at hy
          · rename_i hjA
            have e9 := Option.some.inj hy
            obtain ⟨j', r', hj', hr', ei', em'⟩ := m3_idx (i := x - h.1.1) (N := N) (A := A) (by omega) (by omega)
            have mj : j' * (1 + A) + (1 + A) ≤ N * (1 + A) := by
              have := Nat.mul_le_mul_right (1 + A) (show j' + 1 ≤ N from hj')
              rw [Nat.succ_mul] at this; exact this
            have : r' = 0 := by rw [← em']; exact hx.2
            omega
          · exact absurd hy (by simp)
        · exact absurd hy (by simp)
  have hz : (h_m3 h N A B).1.1 = h.1.1 + (1 + N * (1 + A)) := rfl
  have kk := k' p e s m args below meth c ρ0 z0 mc ms C ρ' F.heap locs (cells + 1 + N * (1 + A)) (slots + N + N * (A + A * B)) ls aR (fun x hx => by rw [r2 x (by omega)]; exact h2' x hx) (by rw [hz]; omega) (fun v hv => a_sl_mono (by rw [hz]; omega) (h4 v hv)) (sc_co (show h.1.1 < _ by rw [hz]; omega) (fun v hv => a_sc_mono (by rw [hz]; omega) (sc_tl (sc_tl (sc_tl h5)) v hv))) (a_lvK r2 h4 h6) ⟨by rw [f1]; have := h7.1; omega, fun x q1 q2 => (hold x (Nat.lt_of_lt_of_le q1 h7.1)).trans (h7.2.1 x q1 q2), h7.2.2⟩ (by omega) (by omega)
  rw [List.map_cons, show a_tr K ρ' (.ref h.1.1) = .ref H.size by
    show Value.ref (ρ' h.1.1) = _
    rw [show h.1.1 = h.1.1 + 0 by omega, r4 0, Nat.add_zero], a_map_agree r2 (sc_tl (sc_tl (sc_tl h5)))] at kk
  obtain ⟨t, a1, b1⟩ := kk F rfl X'
  refine ⟨t, step t ?_, b1⟩
  have eH : T.heap.size = H.size := by rw [hT]
  rw [eH]
  exact a1
end
