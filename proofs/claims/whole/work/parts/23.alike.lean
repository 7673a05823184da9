/-! areAlike (made by wip/gen/auto2.py) -/
def lb_Led_areAlike_11 (F : Nat) (rec_11 : Nat → Nat → Int32 → aM → Option Int32) (a0 : Nat) (a1 : Nat) (x2 : Int32) (m : aM) : Option Int32 :=
  (if 4 ≤ x2 then
  some 1
  else
  o_gd (inb x2 4) <|
  o_gd (inb x2 4) <|
  (if (m a0 x2.toNatClampNeg) = (m a1 x2.toNatClampNeg) then
  rec_11 a0 a1 (x2 + 1) m
  else
  some 0
  )
  )
theorem tb_Led_areAlike_11 {K : aK} {d bc bs : Nat} {g : aG} (s : Sys g) {Q : aQ} {r : Int32} (F : Nat) (m : aM) (rec_11 : Nat → Nat → Int32 → aM → Option Int32) (hr_11 : ∀ (a0 : Nat) (h0 : g.2.1 a0 = (0, 4)) (a1 : Nat) (h1 : g.2.1 a1 = (0, 4)) (x2 : Int32), rec_11 a0 a1 x2 m = some r → G K M_Led_areAlike d bc bs 11 [.ref a0, .ref a1, .int x2] [] (g, m) Q) (a0 : Nat) (h0 : g.2.1 a0 = (0, 4)) (a1 : Nat) (h1 : g.2.1 a1 = (0, 4)) (x2 : Int32) (hq : Q (.inl (some (.int r))) (g, m)) (e : lb_Led_areAlike_11 F rec_11 a0 a1 x2 m = some r) : G K M_Led_areAlike d bc bs 11 [.ref a0, .ref a1, .int x2] [] (g, m) Q := by
  unfold lb_Led_areAlike_11 at e
  refine g_iload_n k_Led_areAlike_11 rfl rfl ?_
  refine g_aload_n k_Led_areAlike_12 rfl rfl ?_
  refine p_alen (v := 4) k_Led_areAlike_13 h0 (by decide) rfl ?_
  refine g_icmp_ge (tgt := 34) k_Led_areAlike_14 (by decide) (fun c => ?_) (fun c => ?_)
  · rw [if_pos c] at e
    refine g_iconst (v := 1) k_Led_areAlike_34 rfl ?_
    refine g_zret k_Led_areAlike_35 rfl (by decide) ?_
    exact (by cases e; exact hq)
  · rw [if_neg c] at e
    refine g_aload_n k_Led_areAlike_17 rfl rfl ?_
    refine g_iload_n k_Led_areAlike_18 rfl rfl ?_
    obtain ⟨q1, e⟩ := o_gd_ex e
    refine p_iald k_Led_areAlike_19 h0 (inb_in q1) (j := x2.toNatClampNeg) rfl ?_
    refine g_aload_n k_Led_areAlike_20 rfl rfl ?_
    refine g_iload_n k_Led_areAlike_21 rfl rfl ?_
    obtain ⟨q2, e⟩ := o_gd_ex e
    refine p_iald k_Led_areAlike_22 h1 (inb_in q2) (j := x2.toNatClampNeg) rfl ?_
    refine g_icmp_eq (tgt := 28) k_Led_areAlike_23 (by decide) (fun c => ?_) (fun c => ?_)
    · rw [if_pos c] at e
      refine g_iinc (v := _ + 1) k_Led_areAlike_28 rfl rfl (by decide) ?_
      refine g_goto (tgt := 11) k_Led_areAlike_31 (by decide) ?_
      exact (hr_11 a0 h0 a1 h1 (x2 + 1)  e)
    · rw [if_neg c] at e
      refine g_iconst (v := 0) k_Led_areAlike_26 rfl ?_
      refine g_zret k_Led_areAlike_27 rfl (by decide) ?_
      exact (by cases e; exact hq)
def ll_Led_areAlike_11 (F : Nat) : Nat → Nat → Nat → Int32 → aM → Option Int32
  | 0, _, _, _, _ => none
  | N + 1, a0, a1, x2, m => lb_Led_areAlike_11 F (ll_Led_areAlike_11 F N) a0 a1 x2 m
theorem t_Led_areAlike_11 {K : aK} {d bc bs : Nat} {g : aG} (s : Sys g) {Q : aQ} {r : Int32} (F : Nat) (m : aM) : ∀ (N : Nat) (a0 : Nat) (h0 : g.2.1 a0 = (0, 4)) (a1 : Nat) (h1 : g.2.1 a1 = (0, 4)) (x2 : Int32), Q (.inl (some (.int r))) (g, m) → ll_Led_areAlike_11 F N a0 a1 x2 m = some r → G K M_Led_areAlike d bc bs 11 [.ref a0, .ref a1, .int x2] [] (g, m) Q
  | 0, _, _, _, _, _ => fun _ e => nomatch e
  | N + 1, a0, h0, a1, h1, x2 => fun hq e => tb_Led_areAlike_11 s F m (ll_Led_areAlike_11 F N) (fun a0 h0 a1 h1 x2 e => t_Led_areAlike_11 s F m N a0 h0 a1 h1 x2 hq e) a0 h0 a1 h1 x2 hq e
def f_Led_areAlike (F : Nat) (a0 : Nat) (a1 : Nat) (m : aM) : Option Int32 :=
  (if (4 : Int32) = 4 then
  ll_Led_areAlike_11 F F a0 a1 0 m
  else
  some 0
  )
theorem s_Led_areAlike {K : aK} {d bc bs : Nat} {g : aG} (s : Sys g) (F : Nat) (a0 : Nat) (h0 : g.2.1 a0 = (0, 4)) (a1 : Nat) (h1 : g.2.1 a1 = (0, 4)) (m : aM) {r : Int32} (e : f_Led_areAlike F a0 a1 m = some r) : Sp K M_Led_areAlike d bc bs [.ref a0, .ref a1] (g, m) (some (.int r)) (g, m) := by
  refine sp_of ok_Led_areAlike rfl (Nat.le_of_ble_eq_true rfl) (by simp [Value.category]) (fun Q hq => ?_)
  unfold f_Led_areAlike at e
  refine g_aload_n k_Led_areAlike_0 rfl rfl ?_
  refine p_alen (v := 4) k_Led_areAlike_1 h0 (by decide) rfl ?_
  refine g_aload_n k_Led_areAlike_2 rfl rfl ?_
  refine p_alen (v := 4) k_Led_areAlike_3 h1 (by decide) rfl ?_
  refine g_icmp_eq (tgt := 9) k_Led_areAlike_4 (by decide) (fun c => ?_) (fun c => ?_)
  · rw [if_pos c] at e
    refine g_iconst (v := 0) k_Led_areAlike_9 rfl ?_
    refine g_istore_n k_Led_areAlike_10 rfl (by decide) ?_
    exact (t_Led_areAlike_11 s F m F a0 h0 a1 h1 0  hq e)
  · rw [if_neg c] at e
    refine g_iconst (v := 0) k_Led_areAlike_7 rfl ?_
    refine g_zret k_Led_areAlike_8 rfl (by decide) ?_
    exact (by cases e; exact hq)
