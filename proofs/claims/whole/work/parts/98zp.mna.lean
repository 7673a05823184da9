/-! ARRAYS OF ARRAYS are made -/
def h_m (h : aH) (t N t2 K2 : Nat) : aH := ((h.1.1 + 1 + N, fun b => if b < h.1.1 then h.1.2.1 b else if b = h.1.1 then (t, N) else (t2, K2), fun b j => if b < h.1.1 then h.1.2.2.1 b j else if b = h.1.1 then (if j < N then some (h.1.1 + 1 + j) else none) else none, fun b j => if b < h.1.1 then h.1.2.2.2 b j else 0), fun b j => if b < h.1.1 then h.2 b j else 0)
theorem a_ws_old {K : aK} {ρ ρ' : Nat → Nat} {h h' : aH} (hρ : ∀ a, a < h.1.1 → ρ' a = ρ a) (hr : ∀ a k b : Nat, h.1.2.2.1 a k = some b → b < h.1.1) (e1 : ∀ a, a < h.1.1 → h'.1.2.1 a = h.1.2.1 a) (e2 : ∀ a, a < h.1.1 → h'.1.2.2.1 a = h.1.2.2.1 a) (e3 : ∀ a, a < h.1.1 → h'.1.2.2.2 a = h.1.2.2.2 a) (e4 : ∀ a, a < h.1.1 → h'.2 a = h.2 a) : (List.range h.1.1).map (fun a => (ρ' a, a_ce K ρ' h' a)) = a_ws K ρ h := by
  refine List.map_congr_left fun a ha => ?_
  have ha' := List.mem_range.mp ha
  have em : ∀ j, (h.1.2.2.1 a j).map ρ' = (h.1.2.2.1 a j).map ρ := fun j => by
    cases hj : h.1.2.2.1 a j with
    | none => rfl
    | some b => simp [hρ b (hr a j b hj)]
  have ef : ∀ ci, a_fv ρ' h' ci a = a_fv ρ h ci a := fun ci => by
    funext j
    simp [a_fv, e2 a ha', e4 a ha', em]
  rw [hρ a ha']
  congr 1
  simp only [a_ce, ef, e1 a ha', e2 a ha', e3 a ha', e4 a ha', em]
theorem a_ws_m {K : aK} {ρ ρ' : Nat → Nat} {h : aH} {t N t2 K2 : Nat} (hρ : ∀ a, a < h.1.1 → ρ' a = ρ a) (hr : ∀ a k b : Nat, h.1.2.2.1 a k = some b → b < h.1.1) : a_ws K ρ' (h_m h t N t2 K2) = (a_ws K ρ h ++ [(ρ' h.1.1, a_ce K ρ' (h_m h t N t2 K2) h.1.1)]) ++ (List.range N).map (fun i => (ρ' (h.1.1 + 1 + i), a_ce K ρ' (h_m h t N t2 K2) (h.1.1 + 1 + i))) := by
  show (List.range (h.1.1 + 1 + N)).map _ = _
  rw [List.range_add, List.map_append, List.range_succ, List.map_append]
  congr 1
  · congr 1
    refine a_ws_old hρ hr (fun a ha => ?_) (fun a ha => ?_) (fun a ha => ?_) (fun a ha => ?_)
    · simp [h_m, ha]
    · funext j; simp [h_m, ha]
    · funext j; simp [h_m, ha]
    · funext j; simp [h_m, ha]
  · rw [List.map_map]
    rfl
theorem cl_Mod_61 : Cond.classLink R_Mod 61 "[[I" ∈ a_w0 := a_w0_in (List.mem_append_right _ (List.mem_of_getElem? (i := 1429) (by decide +kernel))) rfl
theorem cl_Mod_76 : Cond.classLink R_Mod 76 "[[Z" ∈ a_w0 := a_w0_in (List.mem_append_right _ (List.mem_of_getElem? (i := 1431) (by decide +kernel))) rfl
theorem cl_Mod_123 : Cond.classLink R_Mod 123 "[[[I" ∈ a_w0 := a_w0_in (List.mem_append_right _ (List.mem_of_getElem? (i := 1433) (by decide +kernel))) rfl
section
variable {K : aK} {M : aMI} {d bc bs pc : Nat} {L S : List Value} {h : aH} {Q : aQ}
theorem g_mna {index t2 N K2 : Nat} {n k : Int32} (h2 : t2 < 2) (hd : decode M.2.1 pc = .ok (.multianewarray index 2, 4)) (hl : Cond.classLink M.1 index ("[" ++ (FieldType.array (a_aty t2)).toString) ∈ a_w0) (hw : Cond.arrayClass (a_aty t2) ∈ a_w0) (hn : ¬ n < 0) (hk : ¬ k < 0) (hN : n.toNatClampNeg = N) (hM : k.toNatClampNeg = K2) (hb1 : N ≤ 60000000) (hb2 : K2 ≤ 60000000) (hc : 1 + N ≤ bc) (hs : N + N * K2 ≤ bs) (k' : G K M d (bc - (1 + N)) (bs - (N + N * K2)) (pc + 4) L (.ref h.1.1 :: S) (h_m h (3 + t2) N t2 K2) Q) : G K M d bc bs pc L (.int k :: .int n :: S) h Q := by
  intro p e s m args below meth c ρ0 z0 mc ms C ρ H locs cells slots ls h1 h2' h3 h4 h5 h6 h7 h8 h9
  have VF := C.2.2.2.2.2.2.2.2.2.1
  have hK := VF.1
  have t7 : 3 + t2 < 7 := by omega
  have aty : a_aty (3 + t2) = .array (a_aty t2) := by rcases (show t2 = 0 ∨ t2 = 1 by omega) with rfl | rfl <;> rfl
  have hcy : s.vm.findClass (FieldType.array (a_aty t2)).toString = some (K.2.1 t2) := by
    have := (hK.2 t2 _ (a_tys_get (by omega))).2
    rcases (show t2 = 0 ∨ t2 = 1 by omega) with rfl | rfl <;> exact this
  have hov : va_AOA (a_aty t2) s := by
    rcases (show t2 = 0 ∨ t2 = 1 by omega) with rfl | rfl
    · exact VF.2.2.2.2.2.2.2.2.1
    · exact VF.2.2.2.2.2.2.2.2.2.1
  have df : defaultValue (a_aty t2) = .int 0 := by rcases (show t2 = 0 ∨ t2 = 1 by omega) with rfl | rfl <;> rfl
  have hid : ∀ (cA : ClassId), va_K K.1 a_cl (a_tys K ++ [(cA, .array (a_aty t2))]) s → cA = K.2.1 (3 + t2) := fun cA hq => by
    have e1 := (hq.2 7 (cA, .array (a_aty t2)) (by simp [a_tys])).2
    have e2 := (hK.2 (3 + t2) _ (a_tys_get t7)).2
    rw [aty] at e2
    exact Option.some.inj (e1.symm.trans e2)
  refine va_mna (X := a_ws K ρ h) (L := []) (f := fun _ => .inl (K.2.1 0, 0, .inl (fun _ => 0))) (D := K.1) (cl := a_cl) (tys := a_tys K) (A := fun q => K.2.2.1 ≤ q) (ty := a_aty t2) (cy := K.2.1 t2) (z := (K2, .inl (fun _ => 0))) (H0 := s.heap) C.1 C.2.1 C.2.2.2.1 (C.2.2.2.2.2.1 _ hl) hov (C.2.2.2.2.2.1 _ hw) hcy hK (by simpa [va_pl] using h1.1) (by simpa [va_pl] using h1.2.1) h7 (fun q hq => Nat.le_trans VF.2.1 hq) hn hk hN hM (by omega) (by
    have : componentBytes (a_aty t2) ≤ 4 := by rcases (show t2 = 0 ∨ t2 = 1 by omega) with rfl | rfl <;> decide
    exact Nat.le_trans (Nat.mul_le_mul_left K2 this) (by omega)) (by omega) (by rw [df]; rcases (show t2 = 0 ∨ t2 = 1 by omega) with rfl | rfl <;> rfl) (by rw [df]; rfl) (show cells + (1 + N) ≤ mc by omega) (show slots + (N + N * K2) ≤ ms by omega) (fun cc => by
    rw [df, vp_cell_i]
    exact arrV_new cc K2 (.int 0)) hd (fun q r cA H1 ri _ qK q1 q2 q3 => ?_)
  obtain rfl := hid cA qK
  let ρ' : Nat → Nat := fun a => if a < h.1.1 then ρ a else if a = h.1.1 then q else r (a - h.1.1 - 1)
  have r2 : ∀ a, a < h.1.1 → ρ' a = ρ a := fun a ha => if_pos ha
  have r3 : ρ' h.1.1 = q := by simp [ρ']
  have r4 : ∀ i, ρ' (h.1.1 + 1 + i) = r i := fun i => by
    show (if h.1.1 + 1 + i < h.1.1 then _ else if h.1.1 + 1 + i = h.1.1 then _ else _) = _
    rw [if_neg (by omega), if_neg (by omega), show h.1.1 + 1 + i - h.1.1 - 1 = i by omega]
  have ew := a_ws_m (K := K) (ρ := ρ) (ρ' := ρ') (h := h) (t := 3 + t2) (N := N) (t2 := t2) (K2 := K2) r2 h1.2.2
  have c0 : a_ce K ρ' (h_m h (3 + t2) N t2 K2) h.1.1 = .inl (K.2.1 (3 + t2), N, .inr (.inr (.inr (.inr (fun i => if i < N then some (r i) else none))))) := by
    rw [a_ce_r (t := 3 + t2) (n := N) (by simp [h_m]) (by omega) t7]
    congr 7
    funext j
    simp only [h_m, Nat.lt_irrefl, if_false, if_true]
    by_cases cj : j < N
    · simp [cj, r4]
    · simp [cj]
  have c1 : ∀ i, i < N → a_ce K ρ' (h_m h (3 + t2) N t2 K2) (h.1.1 + 1 + i) = .inl (K.2.1 t2, K2, .inl (fun _ => 0)) := fun i hi => by
    rw [a_ce_i (t := t2) (n := K2) (by simp [h_m, show ¬ h.1.1 + 1 + i < h.1.1 by omega, show ¬ h.1.1 + 1 + i = h.1.1 by omega]) h2]
    congr 4
    funext j
    simp [h_m, show ¬ h.1.1 + 1 + i < h.1.1 by omega]
  have rows : (List.range N).map (fun i => (ρ' (h.1.1 + 1 + i), a_ce K ρ' (h_m h (3 + t2) N t2 K2) (h.1.1 + 1 + i))) = va_pl ([] ++ (List.range N).map r) (vr_up (fun _ => .inl (K.2.1 0, 0, .inl (fun _ => 0))) ((List.range N).map r) (.inl (K.2.1 t2, K2, .inl (fun _ => 0)))) := by
    unfold va_pl
    rw [List.nil_append, List.map_map]
    refine List.map_congr_left fun i hi => ?_
    have hi' := List.mem_range.mp hi
    show (_, _) = (r i, _)
    rw [r4, c1 i hi', vr_up_in (List.mem_map.mpr ⟨i, hi, rfl⟩)]
  rw [r3, c0, rows] at ew
  have aR : a_R K ρ' (h_m h (3 + t2) N t2 K2) H1 := by
    refine ⟨by rw [ew]; exact q1, by rw [ew]; exact q2, fun a j b hb => ?_⟩
    show b < h.1.1 + 1 + N
    simp only [h_m] at hb
    split at hb
    · have := h1.2.2 a j b hb
      omega
    · split at hb
      · split at hb
        · have := Option.some.inj hb
          omega
        · exact absurd hb (by simp)
      · exact absurd hb (by simp)
  have hz : (h_m h (3 + t2) N t2 K2).1.1 = h.1.1 + 1 + N := rfl
  have := k' p e s m args below meth c ρ0 z0 mc ms C ρ' H1 locs (cells + 1 + N) (slots + N + N * K2) ls aR (fun a ha => by rw [r2 a (by omega)]; exact h2' a ha) (by rw [hz]; omega) (fun v hv => a_sl_mono (by rw [hz]; omega) (h4 v hv)) (sc_co (show h.1.1 < _ by rw [hz]; omega) (fun v hv => a_sc_mono (by rw [hz]; omega) (sc_tl (sc_tl h5) v hv))) (a_lvK r2 h4 h6) q3 (by omega) (by omega)
  rw [List.map_cons, show a_tr K ρ' (.ref h.1.1) = .ref q by simp [a_tr, r3], a_map_agree r2 (sc_tl (sc_tl h5))] at this
  exact this
end
