/-! p1: the reference's put on a fresh object -/
def q0 (o : Option (Int32 × mS)) : Prop := ∃ μ2, o = some (0, μ2)
theorem q0p {c : Prop} {i : Decidable c} {x y : Option (Int32 × mS)} (h : c) (k : q0 x) : q0 (@ite _ c i x y) := by rw [if_pos h]; exact k
theorem q0n {c : Prop} {i : Decidable c} {x y : Option (Int32 × mS)} (h : ¬ c) (k : q0 y) : q0 (@ite _ c i x y) := by rw [if_neg h]; exact k
theorem q0m {x : mS} {k : mS → Option (Int32 × mS)} (h : q0 (k x)) : q0 (mPut x k) := h
theorem one_146 {μ : mS} (h : μ.1 0 0 = 0) (a b c d : Int32) (v : Int64) (e f : Int32) : q0 (mF_put_146 a b c d v e f 0 μ) := by
  have z0 : zix (μ.1 0 0) 200 := by rw [h]; decide
  unfold mF_put_146
  refine q0p z0 (q0p (Or.inl rfl) (q0m (q0m ⟨_, congrArg (fun t => some (t, _)) ?_⟩)))
  show (μ.1 0 0 + 1) - 1 = 0
  rw [h]
  rfl
theorem one_put {μ : mS} (h : μ.1 0 0 = 0) (a b c d : Int32) (v : Int64) (e f : Int32) (n10 : ¬ a = 10) (n11 : ¬ a = 11) (n12 : ¬ a = 12) (n16 : ¬ a = 16) : q0 (mF_put a b c d v e f μ) := by
  have z0 : zix (μ.1 0 0) 200 := by rw [h]; decide
  unfold mF_put
  refine q0p z0 (q0m ?_)
  refine q0p z0 (q0m ?_)
  refine q0p z0 (q0m ?_)
  refine q0p z0 (q0m ?_)
  refine q0p z0 (q0m ?_)
  refine q0p z0 (q0m ?_)
  refine q0p z0 (q0m ?_)
  refine q0n n11 (q0n n12 (q0p n10 ?_))
  unfold mF_put_110
  refine q0p n16 ?_
  unfold mF_put_145
  refine one_146 ?_ _ _ _ _ _ _ _
  exact h
theorem one_35 (k : Int32) (v : Int64) (n10 : ¬ 100 + k = 10) (n11 : ¬ 100 + k = 11) (n12 : ¬ 100 + k = 12) (n16 : ¬ 100 + k = 16) : ∃ μ2, mF_leaf_35 k v mu0 = some (0, μ2) := by
  obtain ⟨μ2, h⟩ := one_put (μ := mu0) rfl (100 + k) (-1) (-1) (-1) v 1 1 n10 n11 n12 n16
  refine ⟨μ2, ?_⟩
  unfold mF_leaf_35
  rw [if_pos (show ¬ mu0.1 0 0 = 200 from (by decide : ¬ (0 : Int32) = 200)), h]
set_option maxRecDepth 100000 in
theorem one_38 (a b c : Int32) : ∃ μ2, mF_node_38 20 a b c mu0 = some (0, μ2) := by
  have e : ∃ x d f, mF_node_38 20 a b c mu0 = match mF_put 20 a (-1) (-1) x d f mu0 with | none => none | some (v2, m3) => some (v2, m3) := ⟨_, _, _, rfl⟩
  obtain ⟨x, d, f, e⟩ := e
  obtain ⟨μ2, h⟩ := one_put (μ := mu0) rfl 20 a (-1) (-1) x d f (by decide) (by decide) (by decide) (by decide)
  exact ⟨μ2, by rw [e, h]⟩
