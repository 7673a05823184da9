/-! Lens.work: the stack machine -/
def w_fin (t : Nat) (w : Nat → Int32) : Int32 := match t with
  | 0 => 0
  | u + 1 => w u
/-- n turns are left; t values wait -/
def wkR (o p : Nat → Int32) (e : Int32) (ol fr : Nat → Int32) : Nat → Nat → Int32 → (Nat → Int32) → Int32
  | 0, t, _, w => w_fin t w
  | n + 1, t, i, w =>
    if i < 0 then w_fin t w else if e ≤ i then w_fin t w else if 400 ≤ i then w_fin t w else
    if 2 < o i.toNatClampNeg then
      if o i.toNatClampNeg = 3 then wkR o p e ol fr n t (p i.toNatClampNeg) w
      else match t with
        | 0 => 0
        | u + 1 => if o i.toNatClampNeg = 4 then wkR o p e ol fr n u (if w u = 0 then p i.toNatClampNeg else i + 1) w
          else if o i.toNatClampNeg = 5 then wkR o p e ol fr n (u + 1) (i + 1) (upd w u (1 - w u))
          else match u with
            | 0 => 0
            | x + 1 => wkR o p e ol fr n (x + 1) (i + 1) (upd w x (w_join (o i.toNatClampNeg) (w x) (w (x + 1))))
    else if nI t < 64 then wkR o p e ol fr n (t + 1) (i + 1) (upd w t (w_val (o i.toNatClampNeg) (p i.toNatClampNeg) ol fr)) else 0
theorem wk_cong {o p : Nat → Int32} {e : Int32} {ol fr : Nat → Int32} : ∀ (n t : Nat) (i : Int32) (w w' : Nat → Int32), (∀ j, j < t → w j = w' j) → wkR o p e ol fr n t i w = wkR o p e ol fr n t i w' := by
  have fin : ∀ (t : Nat) (w w' : Nat → Int32), (∀ j, j < t → w j = w' j) → w_fin t w = w_fin t w' := fun t w w' h => by
    cases t with
    | zero => rfl
    | succ u => exact h u (Nat.lt_succ_self u)
  have up : ∀ (k u : Nat) (w w' : Nat → Int32) (x x' : Int32), x = x' → (∀ j, j < u → w j = w' j) → ∀ j, j < k → j < u ∨ j = u → upd w u x j = upd w' u x' j := fun k u w w' x x' hx h j _ hj => by
    unfold upd
    by_cases e : j = u
    · rw [if_pos e, if_pos e, hx]
    · rw [if_neg e, if_neg e]; exact h j (by omega)
  intro n
  induction n with
  | zero => intro t i w w' h; exact fin t w w' h
  | succ n ih =>
    intro t i w w' h
    rw [wkR.eq_def, wkR.eq_def o p e ol fr (n + 1) t i w']
    dsimp only
    rw [fin t w w' h]
    congr 1; congr 1; congr 1
    by_cases h2 : 2 < o i.toNatClampNeg
    · rw [if_pos h2, if_pos h2, ih t (p i.toNatClampNeg) w w' h]
      congr 1
      cases t with
      | zero => rfl
      | succ u =>
        dsimp only
        rw [h u (by omega), ih u _ w w' (fun j hj => h j (by omega)), ih (u + 1) (i + 1) (upd w u (1 - w' u)) (upd w' u (1 - w' u)) (fun j hj => up (u + 1) u w w' _ _ rfl (fun j hj => h j (by omega)) j hj (by omega))]
        congr 1; congr 1
        cases u with
        | zero => rfl
        | succ x =>
          dsimp only
          exact ih (x + 1) (i + 1) _ _ (fun j hj => up (x + 1) x w w' _ _ (by rw [h x (by omega), h (x + 1) (by omega)]) (fun j hj => h j (by omega)) j hj (by omega))
    · rw [if_neg h2, if_neg h2, ih (t + 1) (i + 1) (upd w t _) (upd w' t _) (fun j hj => up (t + 1) t w w' _ _ rfl h j hj (by omega))]
/-- the value of the orders from s on, ahead of e -/
def wkV (o p : Nat → Int32) (s e : Int32) (ol fr : Nat → Int32) : Int32 := wkR o p e ol fr 400 0 s (fun _ => 0)
theorem l_Len_work {K : aK} {d bc bs : Nat} {g : aG} {a po pf : Nat} (s : ShLen g a) (ho : g.2.1 po = (0, 4)) (hf : g.2.1 pf = (0, 4)) (no : po ≠ a + 8) (nf : pf ≠ a + 8) (hd : 2 ≤ d) (m0 : aM) (st e : Int32) {Q : aQ} : ∀ (n k t : Nat) (i : Int32) (m : aM) (v8 v9 : Value), k + n = 400 → t ≤ 64 → Ag (fun b => b = a + 8) m0 m →
    (∀ m', Ag (fun b => b = a + 8) m0 m' → Q (.inl (some (.int (wkR (m0 (a + 1)) (m0 (a + 2)) e (m0 po) (m0 pf) n t i (m (a + 8)))))) (g, m')) →
    G K M_Len_work d bc bs 9 [.ref a, .int st, .int e, .ref po, .ref pf, .int (nI t), .int i, .int (nI k), v8, v9] [] (g, m) Q := by
  have fin : ∀ (t : Nat) (i : Int32) (k : Nat) (m : aM) (v8 v9 : Value), t ≤ 64 → Q (.inl (some (.int (w_fin t (m (a + 8)))))) (g, m) → G K M_Len_work d bc bs 223 [.ref a, .int st, .int e, .ref po, .ref pf, .int (nI t), .int i, .int (nI k), v8, v9] [] (g, m) Q := by
    intro t i k m v8 v9 ht hq
    cases t with
    | zero =>
      refine g_iload k_Len_work_223 rfl ?_
      refine g_if_le (tgt := 240) k_Len_work_225 (by decide) (fun c_225 => ?_) (fun c_225 => ?_)
      · refine g_iconst (v := 0) k_Len_work_240 rfl ?_
        refine g_iret k_Len_work_241 rfl ?_
        exact hq
      · exact absurd (by decide) c_225
    | succ u =>
      refine g_iload k_Len_work_223 rfl ?_
      refine g_if_le (tgt := 240) k_Len_work_225 (by decide) (fun c_225 => ?_) (fun c_225 => ?_)
      · exact absurd c_225 (nI_nle (by omega) (by omega))
      · refine g_aload_n k_Len_work_228 rfl rfl ?_
        refine p_getr k_Len_work_229 fl_Len_34 rfl (sk_Len s) (by decide) (sr_Len_9 s) ?_
        refine g_iload k_Len_work_232 rfl ?_
        refine g_iconst (v := 1) k_Len_work_234 rfl ?_
        refine g_isub k_Len_work_235 ?_
        refine p_iald k_Len_work_236 (sa_Len_9 s) (by rw [nI_pred]; exact vp_in_nI (by omega) (by decide)) (j := u) (by rw [nI_pred]; exact nI_clamp (by omega)) ?_
        refine g_goto (tgt := 241) k_Len_work_237 (by decide) ?_
        refine g_iret k_Len_work_241 rfl ?_
        exact hq
  intro n
  induction n with
  | zero =>
    intro k t i m v8 v9 hk ht hag hq
    obtain rfl : k = 400 := by omega
    refine g_iload k_Len_work_9 rfl ?_
    refine g_sipush (v := 400) k_Len_work_11 rfl ?_
    refine g_icmp_ge (tgt := 223) k_Len_work_14 (by decide) (fun c_14 => ?_) (fun c_14 => ?_)
    · exact fin t i _ m v8 v9 ht (hq m hag)
    · exact absurd (nI_le (Nat.le_refl 400) (by decide)) c_14
  | succ n ih =>
    intro k t i m v8 v9 hk ht hag hq
    have hk4 : k < 400 := by omega
    have e1 : m (a + 1) = m0 (a + 1) := hag _ (by omega)
    have e2 : m (a + 2) = m0 (a + 2) := hag _ (by omega)
    have eo : m po = m0 po := hag _ no
    have ef : m pf = m0 pf := hag _ nf
    refine g_iload k_Len_work_9 rfl ?_
    refine g_sipush (v := 400) k_Len_work_11 rfl ?_
    refine g_icmp_ge (tgt := 223) k_Len_work_14 (by decide) (fun c_14 => ?_) (fun c_14 => ?_)
    · exact absurd c_14 (nI_ge hk4 (by decide))
    · refine g_iload k_Len_work_17 rfl ?_
      refine g_if_lt (tgt := 223) k_Len_work_19 (by decide) (fun c_19 => ?_) (fun c_19 => ?_)
      · exact fin t _ _ m _ _ ht (by simpa only [wkR, if_neg c_14, if_pos c_19] using hq m hag)
      · refine g_iload k_Len_work_22 rfl ?_
        refine g_iload_n k_Len_work_24 rfl rfl ?_
        refine g_icmp_ge (tgt := 223) k_Len_work_25 (by decide) (fun c_25 => ?_) (fun c_25 => ?_)
        · exact fin t _ _ m _ _ ht (by simpa only [wkR, if_neg c_14, if_neg c_19, if_pos c_25] using hq m hag)
        · refine g_iload k_Len_work_28 rfl ?_
          refine g_sipush (v := 400) k_Len_work_30 rfl ?_
          refine g_icmp_ge (tgt := 223) k_Len_work_33 (by decide) (fun c_33 => ?_) (fun c_33 => ?_)
          · exact fin t _ _ m _ _ ht (by simpa only [wkR, if_neg c_14, if_neg c_19, if_neg c_25, if_pos c_33] using hq m hag)
          · refine g_aload_n k_Len_work_36 rfl rfl ?_
            refine p_getr k_Len_work_37 fl_Len_11 rfl (sk_Len s) (by decide) (sr_Len_0 s) ?_
            refine g_iload k_Len_work_40 rfl ?_
            refine p_iald k_Len_work_42 (sa_Len_0 s) (in_of c_19 c_33 (by decide)) rfl ?_
            refine G.v (y := m0 (a + 1) i.toNatClampNeg) (by rw [e1]) ?_
            refine g_istore k_Len_work_43 (by decide) ?_
            refine g_aload_n k_Len_work_45 rfl rfl ?_
            refine p_getr k_Len_work_46 fl_Len_15 rfl (sk_Len s) (by decide) (sr_Len_1 s) ?_
            refine g_iload k_Len_work_49 rfl ?_
            refine p_iald k_Len_work_51 (sa_Len_1 s) (in_of c_19 c_33 (by decide)) rfl ?_
            refine G.v (y := m0 (a + 2) i.toNatClampNeg) (by rw [e2]) ?_
            refine g_istore k_Len_work_52 (by decide) ?_
            refine g_iinc (v := _ + 1) k_Len_work_54 rfl rfl (by decide) ?_
            refine g_iload k_Len_work_57 rfl ?_
            refine g_iconst (v := 2) k_Len_work_59 rfl ?_
            refine g_icmp_gt (tgt := 95) k_Len_work_60 (by decide) (fun c_60 => ?_) (fun c_60 => ?_)
            · refine g_iload k_Len_work_95 rfl ?_
              refine g_iconst (v := 3) k_Len_work_97 rfl ?_
              refine g_icmp_ne (tgt := 108) k_Len_work_98 (by decide) (fun c_98 => ?_) (fun c_98 => ?_)
              · refine g_iload k_Len_work_101 rfl ?_
                refine g_istore k_Len_work_103 (by decide) ?_
                refine g_goto (tgt := 217) k_Len_work_105 (by decide) ?_
                refine g_iinc k_Len_work_217 rfl (nIx k) (by decide) ?_
                refine g_goto (tgt := 9) k_Len_work_220 (by decide) ?_
                exact ih (k + 1) _ _ _ _ _ (by omega) (by omega) (by first | exact hag | exact hag.st rfl) (by intro m9 h9; simpa only [wkR, if_neg c_14, if_neg c_19, if_neg c_25, if_neg c_33, if_pos c_60, if_pos c_98, a_st_at] using hq m9 h9)
              · refine g_iload k_Len_work_108 rfl ?_
                refine g_iconst (v := 1) k_Len_work_110 rfl ?_
                refine g_icmp_ge (tgt := 116) k_Len_work_111 (by decide) (fun c_111 => ?_) (fun c_111 => ?_)
                · obtain ⟨u, rfl⟩ : ∃ u, t = u + 1 := ⟨t - 1, by have := (nI_leI (a := 1) (b := t) (by decide) (by omega)).mp c_111; omega⟩
                  refine g_iload k_Len_work_116 rfl ?_
                  refine g_iconst (v := 4) k_Len_work_118 rfl ?_
                  refine g_icmp_ne (tgt := 147) k_Len_work_119 (by decide) (fun c_119 => ?_) (fun c_119 => ?_)
                  · refine g_iinc k_Len_work_122 rfl (pk_m1 u) (by decide) ?_
                    refine g_aload_n k_Len_work_125 rfl rfl ?_
                    refine p_getr k_Len_work_126 fl_Len_34 rfl (sk_Len s) (by decide) (sr_Len_9 s) ?_
                    refine g_iload k_Len_work_129 rfl ?_
                    refine p_iald k_Len_work_131 (sa_Len_9 s) (vp_in_nI (n := u) (N := 64) (by omega) (by decide)) (j := u) (nI_clamp (by omega)) ?_
                    refine g_if_ne (tgt := 140) k_Len_work_132 (by decide) (fun c_132 => ?_) (fun c_132 => ?_)
                    · refine g_iload k_Len_work_135 rfl ?_
                      refine g_goto (tgt := 142) k_Len_work_137 (by decide) ?_
                      refine g_istore k_Len_work_142 (by decide) ?_
                      refine g_goto (tgt := 217) k_Len_work_144 (by decide) ?_
                      refine g_iinc k_Len_work_217 rfl (nIx k) (by decide) ?_
                      refine g_goto (tgt := 9) k_Len_work_220 (by decide) ?_
                      exact ih (k + 1) _ _ _ _ _ (by omega) (by omega) (by first | exact hag | exact hag.st rfl) (by intro m9 h9; simpa only [wkR, if_neg c_14, if_neg c_19, if_neg c_25, if_neg c_33, if_pos c_60, if_neg c_98, if_pos c_111, if_pos c_119, if_pos c_132, a_st_at] using hq m9 h9)
                    · refine g_iload k_Len_work_140 rfl ?_
                      refine g_istore k_Len_work_142 (by decide) ?_
                      refine g_goto (tgt := 217) k_Len_work_144 (by decide) ?_
                      refine g_iinc k_Len_work_217 rfl (nIx k) (by decide) ?_
                      refine g_goto (tgt := 9) k_Len_work_220 (by decide) ?_
                      exact ih (k + 1) _ _ _ _ _ (by omega) (by omega) (by first | exact hag | exact hag.st rfl) (by intro m9 h9; simpa only [wkR, if_neg c_14, if_neg c_19, if_neg c_25, if_neg c_33, if_pos c_60, if_neg c_98, if_pos c_111, if_pos c_119, if_neg c_132, a_st_at] using hq m9 h9)
                  · refine g_iload k_Len_work_147 rfl ?_
                    refine g_iconst (v := 5) k_Len_work_149 rfl ?_
                    refine g_icmp_ne (tgt := 176) k_Len_work_150 (by decide) (fun c_150 => ?_) (fun c_150 => ?_)
                    · refine g_aload_n k_Len_work_153 rfl rfl ?_
                      refine p_getr k_Len_work_154 fl_Len_34 rfl (sk_Len s) (by decide) (sr_Len_9 s) ?_
                      refine g_iload k_Len_work_157 rfl ?_
                      refine g_iconst (v := 1) k_Len_work_159 rfl ?_
                      refine g_isub k_Len_work_160 ?_
                      refine g_iconst (v := 1) k_Len_work_161 rfl ?_
                      refine g_aload_n k_Len_work_162 rfl rfl ?_
                      refine p_getr k_Len_work_163 fl_Len_34 rfl (sk_Len s) (by decide) (sr_Len_9 s) ?_
                      refine g_iload k_Len_work_166 rfl ?_
                      refine g_iconst (v := 1) k_Len_work_168 rfl ?_
                      refine g_isub k_Len_work_169 ?_
                      refine p_iald k_Len_work_170 (sa_Len_9 s) (by rw [nI_pred]; exact (vp_in_nI (n := u) (N := 64) (by omega) (by decide))) (j := u) (by rw [nI_pred]; exact nI_clamp (by omega)) ?_
                      refine g_isub k_Len_work_171 ?_
                      refine p_iast k_Len_work_172 (sa_Len_9 s) (by rw [nI_pred]; exact (vp_in_nI (n := u) (N := 64) (by omega) (by decide))) (j := u) (by rw [nI_pred]; exact nI_clamp (by omega)) ?_
                      refine g_goto (tgt := 217) k_Len_work_173 (by decide) ?_
                      refine g_iinc k_Len_work_217 rfl (nIx k) (by decide) ?_
                      refine g_goto (tgt := 9) k_Len_work_220 (by decide) ?_
                      exact ih (k + 1) _ _ _ _ _ (by omega) (by omega) (by first | exact hag | exact hag.st rfl) (by intro m9 h9; simpa only [wkR, if_neg c_14, if_neg c_19, if_neg c_25, if_neg c_33, if_pos c_60, if_neg c_98, if_pos c_111, if_neg c_119, if_pos c_150, a_st_at] using hq m9 h9)
                    · refine g_iload k_Len_work_176 rfl ?_
                      refine g_iconst (v := 2) k_Len_work_178 rfl ?_
                      refine g_icmp_ge (tgt := 184) k_Len_work_179 (by decide) (fun c_179 => ?_) (fun c_179 => ?_)
                      · obtain ⟨x, rfl⟩ : ∃ x, u = x + 1 := ⟨u - 1, by have := (nI_leI (a := 2) (b := u + 1) (by decide) (by omega)).mp c_179; omega⟩
                        refine g_iinc k_Len_work_184 rfl (pk_m1 (x + 1)) (by decide) ?_
                        refine g_aload_n k_Len_work_187 rfl rfl ?_
                        refine p_getr k_Len_work_188 fl_Len_34 rfl (sk_Len s) (by decide) (sr_Len_9 s) ?_
                        refine g_iload k_Len_work_191 rfl ?_
                        refine g_iconst (v := 1) k_Len_work_193 rfl ?_
                        refine g_isub k_Len_work_194 ?_
                        refine g_iload k_Len_work_195 rfl ?_
                        refine g_aload_n k_Len_work_197 rfl rfl ?_
                        refine p_getr k_Len_work_198 fl_Len_34 rfl (sk_Len s) (by decide) (sr_Len_9 s) ?_
                        refine g_iload k_Len_work_201 rfl ?_
                        refine g_iconst (v := 1) k_Len_work_203 rfl ?_
                        refine g_isub k_Len_work_204 ?_
                        refine p_iald k_Len_work_205 (sa_Len_9 s) (by rw [nI_pred]; exact vp_in_nI (n := x) (N := 64) (by omega) (by decide)) (j := x) (by rw [nI_pred]; exact nI_clamp (by omega)) ?_
                        refine g_aload_n k_Len_work_206 rfl rfl ?_
                        refine p_getr k_Len_work_207 fl_Len_34 rfl (sk_Len s) (by decide) (sr_Len_9 s) ?_
                        refine g_iload k_Len_work_210 rfl ?_
                        refine p_iald k_Len_work_212 (sa_Len_9 s) (vp_in_nI (n := x + 1) (N := 64) (by omega) (by decide)) (j := x + 1) (nI_clamp (by omega)) ?_
                        refine g_cs k_Len_work_213 ls_Len_64 (by decide +kernel) (s_Len_join (bc := 0) (bs := 0) _ _ _ (by omega)) rfl rfl (Nat.le_of_ble_eq_true rfl) (by simp [Value.category]) (by omega) (by omega) (by omega) ?_
                        refine p_iast k_Len_work_216 (sa_Len_9 s) (by rw [nI_pred]; exact vp_in_nI (n := x) (N := 64) (by omega) (by decide)) (j := x) (by rw [nI_pred]; exact nI_clamp (by omega)) ?_
                        refine g_iinc k_Len_work_217 rfl (nIx k) (by decide) ?_
                        refine g_goto (tgt := 9) k_Len_work_220 (by decide) ?_
                        exact ih (k + 1) _ _ _ _ _ (by omega) (by omega) (by first | exact hag | exact hag.st rfl) (by intro m9 h9; simpa only [wkR, if_neg c_14, if_neg c_19, if_neg c_25, if_neg c_33, if_pos c_60, if_neg c_98, if_pos c_111, if_neg c_119, if_neg c_150, if_pos c_179, a_st_at] using hq m9 h9)
                      · obtain rfl : u = 0 := by have h9 : ¬ 2 ≤ u + 1 := fun q => c_179 ((nI_leI (a := 2) (b := u + 1) (by decide) (by omega)).mpr q); omega
                        refine g_iconst (v := 0) k_Len_work_182 rfl ?_
                        refine g_iret k_Len_work_183 rfl ?_
                        exact (by simpa only [wkR, if_neg c_14, if_neg c_19, if_neg c_25, if_neg c_33, if_pos c_60, if_neg c_98, if_pos c_111, if_neg c_119, if_neg c_150, if_neg c_179] using hq m hag)
                · obtain rfl : t = 0 := by have h9 : ¬ 1 ≤ t := fun q => c_111 ((nI_leI (a := 1) (b := t) (by decide) (by omega)).mpr q); omega
                  refine g_iconst (v := 0) k_Len_work_114 rfl ?_
                  refine g_iret k_Len_work_115 rfl ?_
                  exact (by simpa only [wkR, if_neg c_14, if_neg c_19, if_neg c_25, if_neg c_33, if_pos c_60, if_neg c_98, if_neg c_111] using hq m hag)
            · refine g_iload k_Len_work_63 rfl ?_
              refine g_bipush (v := 64) k_Len_work_65 rfl ?_
              refine g_icmp_lt (tgt := 72) k_Len_work_67 (by decide) (fun c_67 => ?_) (fun c_67 => ?_)
              · refine g_aload_n k_Len_work_72 rfl rfl ?_
                refine p_getr k_Len_work_73 fl_Len_34 rfl (sk_Len s) (by decide) (sr_Len_9 s) ?_
                refine g_iload k_Len_work_76 rfl ?_
                refine g_iload k_Len_work_78 rfl ?_
                refine g_iload k_Len_work_80 rfl ?_
                refine g_aload_n k_Len_work_82 rfl rfl ?_
                refine g_aload k_Len_work_83 rfl ?_
                refine g_cs k_Len_work_85 ls_Len_61 (by decide +kernel) (s_Len_valueOf (bc := 0) (bs := 0) ho hf _ _) rfl rfl (Nat.le_of_ble_eq_true rfl) (by simp [Value.category]) (by omega) (by omega) (by omega) ?_
                have t64 : t < 64 := (nI_ltI (a := t) (b := 64) (by omega) (by decide)).mp c_67
                refine G.v (y := w_val (m0 (a + 1) i.toNatClampNeg) (m0 (a + 2) i.toNatClampNeg) (m0 po) (m0 pf)) (by rw [eo, ef]) ?_
                refine p_iast k_Len_work_88 (sa_Len_9 s) (vp_in_nI t64 (by decide)) (j := t) (nI_clamp (by omega)) ?_
                refine g_iinc k_Len_work_89 rfl (nIx t) (by decide) ?_
                refine g_goto (tgt := 217) k_Len_work_92 (by decide) ?_
                refine g_iinc k_Len_work_217 rfl (nIx k) (by decide) ?_
                refine g_goto (tgt := 9) k_Len_work_220 (by decide) ?_
                exact ih (k + 1) _ _ _ _ _ (by omega) (by omega) (by first | exact hag | exact hag.st rfl) (by intro m9 h9; simpa only [wkR, if_neg c_14, if_neg c_19, if_neg c_25, if_neg c_33, if_neg c_60, if_pos c_67, a_st_at] using hq m9 h9)
              · refine g_iconst (v := 0) k_Len_work_70 rfl ?_
                refine g_iret k_Len_work_71 rfl ?_
                exact (by simpa only [wkR, if_neg c_14, if_neg c_19, if_neg c_25, if_neg c_33, if_neg c_60, if_neg c_67] using hq m hag)
theorem s_Len_work {K : aK} {d bc bs : Nat} {g : aG} {m : aM} {a po pf : Nat} (s : ShLen g a) (ho : g.2.1 po = (0, 4)) (hf : g.2.1 pf = (0, 4)) (no : po ≠ a + 8) (nf : pf ≠ a + 8) (st e : Int32) (hd : 2 ≤ d) : SpR K M_Len_work d bc bs [.ref a, .int st, .int e, .ref po, .ref pf] (g, m) (fun v h' => ∃ m', h' = (g, m') ∧ v = some (.int (wkV (m (a + 1)) (m (a + 2)) st e (m po) (m pf))) ∧ Ag (fun b => b = a + 8) m m') := by
  refine spr_of ok_Len_work rfl (Nat.le_of_ble_eq_true rfl) (by simp [Value.category]) (fun Q hq => ?_)
  refine g_iconst (v := 0) k_Len_work_0 rfl ?_
  refine g_istore k_Len_work_1 (by decide) ?_
  refine g_iload_n k_Len_work_3 rfl rfl ?_
  refine g_istore k_Len_work_4 (by decide) ?_
  refine g_iconst (v := 0) k_Len_work_6 rfl ?_
  refine g_istore k_Len_work_7 (by decide) ?_
  exact l_Len_work s ho hf no nf hd m st e 400 0 0 st m _ _ rfl (by omega) Ag.rf (fun m9 h9 => hq _ _ ⟨m9, rfl, by rw [wkV, wk_cong 400 0 st (m (a + 8)) (fun _ => 0) (fun j hj => absurd hj (Nat.not_lt_zero j))], h9⟩)
