/-! CALLS: lens -/
theorem z_lensI (x : Int32) (F : Nat) (m : aM) (hF : 5000 ≤ F) (h : Iv m) : ZX [IAE, ISE] (f_Led_lens F x) (f_Mod_lens F x) m := by
  obtain ⟨a1, a2, ⟨st, hL⟩, a4, a5, a6, a7⟩ := h
  obtain ⟨t, t4, h1, h2, h3⟩ := a1
  obtain ⟨s, s5, s2, s3⟩ := a7.sg
  obtain ⟨r, m1, e1, v, m2, e2, co, l2, tp, ft, f⟩ := zf_lens x m F t st hF t4 h1 h2 h3 (s2.trans s3.symm) a2 hL
  refine ⟨r, m1, e1, v, m2, e2, co, ⟨?_, ft, l2, a4.fr (fun b j hb => f b j (by unfold fLn; omega)), a5.fr (fun b j hb => f b j (by unfold fLn; omega)), a6.fr (fun b j hb => f b j (by unfold fLn; omega)), a7.fr (fun b j hb => f b j (by unfold fLn; omega))⟩, Or.inr (fun b j hb => f b j (by unfold fLn; omega)), fun b j hb => f b j (by unfold fLn; omega)⟩
  rcases tp with ⟨q1, q2⟩ | ⟨q1, q2⟩
  · exact ⟨0, by omega, q1, q2, fun j hj => by omega⟩
  · exact ⟨t, t4, q1, q2, fun j hj => by rw [f _ _ (by unfold fLn; omega), f _ _ (by unfold fLn; omega)]; exact h3 j hj⟩
