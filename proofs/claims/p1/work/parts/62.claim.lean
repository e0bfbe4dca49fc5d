/-! p1: the pure machine's claim -/
theorem zClaim_ok : zClaim := by
  intro b L b0 xs hL hb
  refine law_start (fun z sh vl w hz h hf => ?_)
  exact law_one hL ⟨h.1, Nat.le_trans hz (by decide), hb, h.2.2.2 b (Or.inl hb), (k_c (pa := fun i => i) (sa := fun i => i) h hf).1.2.2.1 (0, 6, 2) (by decide), (k_m h hf).1, k_c h hf⟩
