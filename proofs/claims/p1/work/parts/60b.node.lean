/-! p1: leaf and node on a fresh object -/
theorem one_sz {z : Nat × Nat} {c : Option (Int32 × cS)} {m : Option (Int32 × mS)} {v : Int32} {σ2 : cS} {μ2 : mS} (h1 : c = some (v, σ2)) (h2 : m = some (v, μ2)) (h3 : σ2.2 = (cnP (sg0 z)).2) : oneR z c m := by
  refine ⟨v, σ2, μ2, h1, h2, ?_, ?_⟩
  · rw [h3]; exact Nat.add_le_add_left (by decide) _
  · rw [h3]; exact Nat.add_le_add_left (by decide) _
theorem eu1 (σ : cS) (c k j : Nat) (x : Int32) : (cu1 σ c k j x).2 = σ.2 := rfl
theorem eu2 (σ : cS) (c k j : Nat) (x : Int64) : (cu2 σ c k j x).2 = σ.2 := rfl
theorem eu3 (σ : cS) (c k j : Nat) (x : Option Nat) : (cu3 σ c k j x).2 = σ.2 := rfl
theorem enP (z : Nat × Nat) : (cnP (sg0 z)).2.1 = 1 := rfl
/-- a new Part of a fresh object -/
def sgP (z : Nat × Nat) (a f : Int32) : cS := cu1 (cu1 (cu2 (cu1 (cnP (sg0 z)) 1 8 0 1) 1 9 0 1) 1 0 0 a) 1 10 0 f
theorem one_Part (z : Nat × Nat) (a : Int32) : ∃ f, cF_Part 0 a (cnP (sg0 z)) = some ((), sgP z a f) := by
  by_cases h10 : a = 10
  · subst h10; exact ⟨1, rfl⟩
  by_cases h11 : a = 11
  · subst h11; exact ⟨1, rfl⟩
  by_cases h12 : a = 12
  · subst h12; exact ⟨1, rfl⟩
  by_cases h16 : a = 16
  · subst h16; exact ⟨1, rfl⟩
  refine ⟨0, ?_⟩
  simp [cF_Part, cF_Part_49, cPut_eq, eu1, eu2, enP, h10, h11, h12, h16, sgP]
theorem one_tP (σ : cS) (a : Int32) (hp : 0 < σ.2.1) : cF_takePlace 0 a σ = some (cputb a, cu1 σ 1 2 0 a) := by
  unfold cF_takePlace cputb
  rw [if_pos hp, cPut_eq]
  by_cases h0 : a < 0
  · rw [if_pos h0, if_pos (Or.inl h0)]
  · rw [if_neg h0]
    by_cases h1 : (16 : Int32) ≤ a
    · rw [if_pos h1, if_pos (Or.inr (show nI 16 ≤ a from h1))]
    · rw [if_neg h1, if_neg (fun q : a < 0 ∨ nI 16 ≤ a => q.elim h0 h1)]
theorem one_108 {σ : cS} (hs : σ.1.1 2 1 0 = 0) (hp : 0 < σ.2.1) (a b : Int32) : cF_takeParts_108 0 a b σ = some (0, σ) := by
  unfold cF_takeParts_108
  rw [one_at hs]
  dsimp only
  rw [if_pos hp]
  rfl
theorem one_138 {σ : cS} (hs : σ.1.1 2 1 0 = 0) (hp : 0 < σ.2.1) (a b : Int32) : cF_takeParts_138 0 a b σ = some (0, σ) := by
  unfold cF_takeParts_138
  rw [one_at hs]
  dsimp only
  rw [if_pos hp]
  rfl
theorem one_194 {σ : cS} (hs : σ.1.1 2 1 0 = 0) (hp : 0 < σ.2.1) (a : Int32) : cF_takeParts_194 0 a σ = some (0, σ) := by
  unfold cF_takeParts_194
  rw [one_at hs]
  dsimp only
  rw [if_pos hp]
  rfl
theorem one_168 {σ : cS} (hs : σ.1.1 2 1 0 = 0) (hp : 0 < σ.2.1) (a b : Int32) : cF_takeParts_168 0 a b σ = some (0, cu1 σ 1 2 0 a) := by
  unfold cF_takeParts_168
  rw [if_pos hp, one_tP σ a hp]
  dsimp only
  by_cases h : cputb a = 0
  · rw [if_pos h]
  · rw [if_neg h, one_at (σ := cu1 σ 1 2 0 a) hs]
    dsimp only
    rw [eu1, if_pos hp]
    rfl
theorem one_take {σ : cS} (hs : σ.1.1 2 1 0 = 0) (hp : 0 < σ.2.1) (hn : ¬ σ.1.1 1 0 0 = 20) (a b c : Int32) : ∃ σ2 : cS, σ2.2 = σ.2 ∧ cF_takeParts (some 0) a b c σ = some (0, σ2) := by
  unfold cF_takeParts
  dsimp only
  rw [if_pos hp]
  generalize σ.1.1 1 0 0 = x at hn ⊢
  by_cases e : x.toInt < 0 ∨ 21 < x.toInt
  · rw [if_pos e]; exact ⟨σ, rfl, rfl⟩
  rw [if_neg e]
  by_cases e0 : x = 0
  · rw [if_pos e0]; exact ⟨σ, rfl, one_108 hs hp a b⟩
  rw [if_neg e0]
  by_cases e1 : x = 1
  · rw [if_pos e1]; exact ⟨σ, rfl, one_108 hs hp a b⟩
  rw [if_neg e1]
  by_cases e2 : x = 2
  · rw [if_pos e2]; exact ⟨σ, rfl, one_108 hs hp a b⟩
  rw [if_neg e2]
  by_cases e3 : x = 3
  · rw [if_pos e3]; exact ⟨σ, rfl, one_108 hs hp a b⟩
  rw [if_neg e3]
  by_cases e4 : x = 4
  · rw [if_pos e4]; exact ⟨σ, rfl, one_108 hs hp a b⟩
  rw [if_neg e4]
  by_cases e5 : x = 5
  · rw [if_pos e5]; exact ⟨σ, rfl, one_108 hs hp a b⟩
  rw [if_neg e5]
  by_cases e6 : x = 6
  · rw [if_pos e6]; exact ⟨σ, rfl, rfl⟩
  rw [if_neg e6]
  by_cases e7 : x = 7
  · rw [if_pos e7]; exact ⟨σ, rfl, rfl⟩
  rw [if_neg e7]
  by_cases e8 : x = 8
  · rw [if_pos e8]; exact ⟨σ, rfl, rfl⟩
  rw [if_neg e8]
  by_cases e9 : x = 9
  · rw [if_pos e9]; exact ⟨σ, rfl, rfl⟩
  rw [if_neg e9]
  by_cases e10 : x = 10
  · rw [if_pos e10]; exact ⟨σ, rfl, one_138 hs hp a b⟩
  rw [if_neg e10]
  by_cases e11 : x = 11
  · rw [if_pos e11]; exact ⟨cu1 σ 1 2 0 a, rfl, one_168 hs hp a b⟩
  rw [if_neg e11]
  by_cases e12 : x = 12
  · rw [if_pos e12]; exact ⟨cu1 σ 1 2 0 a, rfl, one_168 hs hp a b⟩
  rw [if_neg e12]
  by_cases e13 : x = 13
  · rw [if_pos e13]; exact ⟨σ, rfl, one_194 hs hp a⟩
  rw [if_neg e13]
  by_cases e14 : x = 14
  · rw [if_pos e14]; exact ⟨σ, rfl, one_194 hs hp a⟩
  rw [if_neg e14]
  by_cases e15 : x = 15
  · rw [if_pos e15]; exact ⟨σ, rfl, one_138 hs hp a b⟩
  rw [if_neg e15]
  by_cases e16 : x = 16
  · rw [if_pos e16, one_at hs]; dsimp only; rw [if_pos hp]; exact ⟨σ, rfl, rfl⟩
  rw [if_neg e16]
  by_cases e17 : x = 17
  · rw [if_pos e17, one_at hs]; dsimp only; rw [if_pos hp]; exact ⟨σ, rfl, rfl⟩
  rw [if_neg e17]
  by_cases e18 : x = 18
  · rw [if_pos e18, one_at hs]; dsimp only; rw [if_pos hp]; exact ⟨σ, rfl, rfl⟩
  rw [if_neg e18]
  by_cases e19 : x = 19
  · rw [if_pos e19, if_pos hp, one_tP σ a hp]
    dsimp only
    refine ⟨cu1 σ 1 2 0 a, rfl, ?_⟩
    by_cases h : cputb a = 0
    · rw [if_pos h]
    · rw [if_neg h, one_at (σ := cu1 σ 1 2 0 a) hs]
      dsimp only
      rw [eu1, if_pos hp]
      rfl
  rw [if_neg e19]
  rw [if_neg hn]
  by_cases e21 : x = 21
  · rw [if_pos e21, one_at hs]; dsimp only; rw [if_pos hp]; exact ⟨σ, rfl, rfl⟩
  exfalso
  have key : ∀ n : Int32, x.toInt = n.toInt → x = n := fun n h => Int32.toInt_inj.1 h
  have h5 : x.toInt = 0 ∨ x.toInt = 1 ∨ x.toInt = 2 ∨ x.toInt = 3 ∨ x.toInt = 4 ∨ x.toInt = 5 ∨ x.toInt = 6 ∨ x.toInt = 7 ∨ x.toInt = 8 ∨ x.toInt = 9 ∨ x.toInt = 10 ∨ x.toInt = 11 ∨ x.toInt = 12 ∨ x.toInt = 13 ∨ x.toInt = 14 ∨ x.toInt = 15 ∨ x.toInt = 16 ∨ x.toInt = 17 ∨ x.toInt = 18 ∨ x.toInt = 19 ∨ x.toInt = 20 ∨ x.toInt = 21 := by omega
  rcases h5 with h5 | h5 | h5 | h5 | h5 | h5 | h5 | h5 | h5 | h5 | h5 | h5 | h5 | h5 | h5 | h5 | h5 | h5 | h5 | h5 | h5 | h5
  · exact e0 (key 0 h5)
  · exact e1 (key 1 h5)
  · exact e2 (key 2 h5)
  · exact e3 (key 3 h5)
  · exact e4 (key 4 h5)
  · exact e5 (key 5 h5)
  · exact e6 (key 6 h5)
  · exact e7 (key 7 h5)
  · exact e8 (key 8 h5)
  · exact e9 (key 9 h5)
  · exact e10 (key 10 h5)
  · exact e11 (key 11 h5)
  · exact e12 (key 12 h5)
  · exact e13 (key 13 h5)
  · exact e14 (key 14 h5)
  · exact e15 (key 15 h5)
  · exact e16 (key 16 h5)
  · exact e17 (key 17 h5)
  · exact e18 (key 18 h5)
  · exact e19 (key 19 h5)
  · exact hn (key 20 h5)
  · exact e21 (key 21 h5)
theorem one_isN (a : Int32) : mF_isNode a mu0 = some (0, mu0) := by
  unfold mF_isNode
  by_cases h0 : a < 0
  · rw [if_pos h0]
  · rw [if_neg h0, if_pos (show mu0.1 0 0 ≤ a from Int32.not_lt.1 h0)]
theorem one_isV (a : Int32) : mF_isValue a mu0 = some (0, mu0) := by
  unfold mF_isValue
  rw [one_isN]
  rfl
theorem one_isS (a : Int32) : mF_isStatement a mu0 = some (0, mu0) := by
  unfold mF_isStatement
  rw [one_isN]
  rfl
theorem one_are (x a b c : Int32) (hn : ¬ x = 20) : mF_areParts x a b c mu0 = some (0, mu0) := by
  unfold mF_areParts
  by_cases e : x.toInt < 10 ∨ 21 < x.toInt
  · rw [if_pos e]
    by_cases h0 : x < 0
    · rw [if_pos h0]
    rw [if_neg h0]
    by_cases h1 : (5 : Int32) < x
    · rw [if_pos h1]
    rw [if_neg h1, one_isV]
    rfl
  rw [if_neg e]
  by_cases e10 : x = 10
  · rw [if_pos e10]; unfold mF_areParts_64; rw [one_isS]; rfl
  rw [if_neg e10]
  by_cases e11 : x = 11
  · rw [if_pos e11]; unfold mF_areParts_86; rw [one_place]; dsimp only; (by_cases h : cputb a = 0); (· rw [if_pos h]); (· rw [if_neg h, one_isV]; rfl)
  rw [if_neg e11]
  by_cases e12 : x = 12
  · rw [if_pos e12]; unfold mF_areParts_86; rw [one_place]; dsimp only; (by_cases h : cputb a = 0); (· rw [if_pos h]); (· rw [if_neg h, one_isV]; rfl)
  rw [if_neg e12]
  by_cases e13 : x = 13
  · rw [if_pos e13]; unfold mF_areParts_107; rw [one_isV]; rfl
  rw [if_neg e13]
  by_cases e14 : x = 14
  · rw [if_pos e14]; unfold mF_areParts_107; rw [one_isV]; rfl
  rw [if_neg e14]
  by_cases e15 : x = 15
  · rw [if_pos e15]; unfold mF_areParts_64; rw [one_isS]; rfl
  rw [if_neg e15]
  by_cases e16 : x = 16
  · rw [if_pos e16, one_isV]; rfl
  rw [if_neg e16]
  by_cases e17 : x = 17
  · rw [if_pos e17, one_isV]; rfl
  rw [if_neg e17]
  by_cases e18 : x = 18
  · rw [if_pos e18, one_isV]; rfl
  rw [if_neg e18]
  by_cases e19 : x = 19
  · rw [if_pos e19, one_place]; dsimp only; (by_cases h : cputb a = 0); (· rw [if_pos h]); (· rw [if_neg h, one_isV]; rfl)
  rw [if_neg e19]
  rw [if_neg hn]
  by_cases e21 : x = 21
  · rw [if_pos e21, one_isS]; rfl
  exfalso
  have key : ∀ n : Int32, x.toInt = n.toInt → x = n := fun n h => Int32.toInt_inj.1 h
  have h5 : x.toInt = 10 ∨ x.toInt = 11 ∨ x.toInt = 12 ∨ x.toInt = 13 ∨ x.toInt = 14 ∨ x.toInt = 15 ∨ x.toInt = 16 ∨ x.toInt = 17 ∨ x.toInt = 18 ∨ x.toInt = 19 ∨ x.toInt = 20 ∨ x.toInt = 21 := by omega
  rcases h5 with h5 | h5 | h5 | h5 | h5 | h5 | h5 | h5 | h5 | h5 | h5 | h5
  · exact e10 (key 10 h5)
  · exact e11 (key 11 h5)
  · exact e12 (key 12 h5)
  · exact e13 (key 13 h5)
  · exact e14 (key 14 h5)
  · exact e15 (key 15 h5)
  · exact e16 (key 16 h5)
  · exact e17 (key 17 h5)
  · exact e18 (key 18 h5)
  · exact e19 (key 19 h5)
  · exact hn (key 20 h5)
  · exact e21 (key 21 h5)
theorem one_are20 (a b c : Int32) : mF_areParts 20 a b c mu0 = some (cputb a, mu0) := by
  show (match mF_isPlace a mu0 with | none => none | some (v69, m70) => if v69 = 0 ∨ v69 = 1 then some (v69, m70) else none) = _
  rw [one_place]
  dsimp only
  rw [if_pos (one_b a)]
theorem one_t20 {σ : cS} (hp : 0 < σ.2.1) (h : σ.1.1 1 0 0 = 20) (a b c : Int32) : cF_takeParts (some 0) a b c σ = some (cputb a, cu1 σ 1 2 0 a) := by
  unfold cF_takeParts
  dsimp only
  rw [if_pos hp, h, if_neg (by decide : ¬ ((20 : Int32).toInt < 0 ∨ 21 < (20 : Int32).toInt))]
  rw [if_neg (by decide : ¬ (20 : Int32) = 0)]
  rw [if_neg (by decide : ¬ (20 : Int32) = 1)]
  rw [if_neg (by decide : ¬ (20 : Int32) = 2)]
  rw [if_neg (by decide : ¬ (20 : Int32) = 3)]
  rw [if_neg (by decide : ¬ (20 : Int32) = 4)]
  rw [if_neg (by decide : ¬ (20 : Int32) = 5)]
  rw [if_neg (by decide : ¬ (20 : Int32) = 6)]
  rw [if_neg (by decide : ¬ (20 : Int32) = 7)]
  rw [if_neg (by decide : ¬ (20 : Int32) = 8)]
  rw [if_neg (by decide : ¬ (20 : Int32) = 9)]
  rw [if_neg (by decide : ¬ (20 : Int32) = 10)]
  rw [if_neg (by decide : ¬ (20 : Int32) = 11)]
  rw [if_neg (by decide : ¬ (20 : Int32) = 12)]
  rw [if_neg (by decide : ¬ (20 : Int32) = 13)]
  rw [if_neg (by decide : ¬ (20 : Int32) = 14)]
  rw [if_neg (by decide : ¬ (20 : Int32) = 15)]
  rw [if_neg (by decide : ¬ (20 : Int32) = 16)]
  rw [if_neg (by decide : ¬ (20 : Int32) = 17)]
  rw [if_neg (by decide : ¬ (20 : Int32) = 18)]
  rw [if_neg (by decide : ¬ (20 : Int32) = 19)]
  rw [if_pos rfl, if_pos hp, one_tP σ a hp]
  dsimp only
  rw [if_pos (one_b a)]
def r0 (n : Nat × Nat × Nat × Nat) (o : Option (Int32 × cS)) : Prop := ∃ σ2 : cS, o = some (0, σ2) ∧ σ2.2 = n
theorem r0p {n : Nat × Nat × Nat × Nat} {c : Prop} {i : Decidable c} {x y : Option (Int32 × cS)} (h : c) (k : r0 n x) : r0 n (@ite _ c i x y) := by rw [if_pos h]; exact k
theorem r0n {n : Nat × Nat × Nat × Nat} {c : Prop} {i : Decidable c} {x y : Option (Int32 × cS)} (h : ¬ c) (k : r0 n y) : r0 n (@ite _ c i x y) := by rw [if_neg h]; exact k
theorem r0c {n : Nat × Nat × Nat × Nat} {x : cS} {k : cS → Option (Int32 × cS)} (h : r0 n (k x)) : r0 n (cPut x k) := h
theorem one_add {σ : cS} (h0 : σ.1.1 2 1 0 = 0) (hp : 0 < σ.2.1) : r0 σ.2 (cF_add (some 0) σ) := by
  have h1 : σ.1.1 2 1 0 < Int32.ofNat 200 := by rw [h0]; decide
  have h2 : zix (σ.1.1 2 1 0) 200 := by rw [h0]; decide
  unfold cF_add
  refine r0p h1 (r0p hp (r0c (r0p hp (r0p h2 (r0c (r0c (r0p hp ⟨_, congrArg (fun t => some (t, _)) ?_, rfl⟩)))))))
  exact h0
theorem one_iS {σ : cS} (hp : 0 < σ.2.1) (h : σ.1.1 1 0 0 = 20) : cF_isStatement 0 σ = some (1, σ) := by
  unfold cF_isStatement
  rw [if_pos hp, h, if_neg (by decide : ¬ (20 : Int32) < 10), if_pos hp, if_neg (by decide : ¬ (21 : Int32) < 20)]
theorem one_node (z : Nat × Nat) (x a b c : Int32) : oneR z (cF_node x a b c (sg0 z)) (mF_node x a b c mu0) := by
  obtain ⟨f, hf⟩ := one_Part z x
  have hc : cF_node x a b c (sg0 z) = cF_addNode x a b c (sg0 z) := by
    unfold cF_node
    cases cF_addNode x a b c (sg0 z) with
    | none => rfl
    | some q => rfl
  rw [hc]
  unfold cF_addNode
  rw [cPut_eq, if_pos (show (sg0 z).2.1 < (cnP (sg0 z)).2.1 from Nat.one_pos)]
  rw [show (sg0 z).2.1 = 0 from rfl, hf]
  dsimp only
  by_cases hn : x = 20
  · subst hn
    have h20 : (sgP z 20 f).1.1 1 0 0 = 20 := rfl
    have hp : 0 < (sgP z 20 f).2.1 := Nat.one_pos
    rw [one_t20 hp h20]
    dsimp only
    by_cases h : cputb a = 0
    · refine one_sz (v := -1) (σ2 := cu1 (sgP z 20 f) 1 2 0 a) (μ2 := mu0) ?_ ?_ rfl
      · rw [if_pos h]
      · unfold mF_node
        rw [one_are20, h]
        dsimp only
        rw [if_neg (fun q => q rfl)]
    · obtain ⟨σ2, ea, es⟩ := one_add (σ := cu1 (sgP z 20 f) 1 2 0 a) rfl hp
      obtain ⟨μ2, em⟩ := one_38 a b c
      refine one_sz (v := 0) (σ2 := σ2) (μ2 := μ2) ?_ ?_ es
      · rw [if_neg h, eu1, if_pos hp, if_pos (show (cu1 (sgP z 20 f) 1 2 0 a).1.1 1 8 0 ≤ 30 from (by decide : (1 : Int32) ≤ 30)), if_pos hp]
        rw [one_iS (σ := cu1 (sgP z 20 f) 1 2 0 a) hp h20]
        dsimp only
        rw [if_pos (by decide : ¬ (1 : Int32) = 0)]
        unfold cF_addNode_57
        rw [ea]
      · unfold mF_node
        rw [one_are20, one_1 h]
        dsimp only
        rw [if_pos (by decide : ¬ (1 : Int32) = 0), if_neg (by decide : ¬ (20 : Int32) = 11), if_neg (by decide : ¬ (20 : Int32) = 12), if_neg (by decide : ¬ (20 : Int32) = 19), if_neg (fun q => q rfl)]
        exact em
  · obtain ⟨σ2, es, et⟩ := one_take (σ := sgP z x f) rfl Nat.one_pos hn a b c
    rw [et]
    dsimp only
    rw [if_pos rfl]
    refine one_sz (v := -1) (σ2 := σ2) (μ2 := mu0) rfl ?_ es
    unfold mF_node
    rw [one_are _ _ _ _ hn]
    dsimp only
    rw [if_neg (fun q => q rfl)]
/-- a leaf of a kind from 0 to 3 -/
theorem one_lc (z : Nat × Nat) (k : Int32) (v : Int64) (h0 : ¬ k < 0) (h4 : k < 4) : ∃ f, cF_leaf k v (sg0 z) = (if 30 + k = (31 : Int32) then cF_addLeaf_50 v 0 (cu2 (sgP z (30 + k) f) 1 3 0 v) else if ¬ 30 + k = (32 : Int32) then cF_addLeaf_73 0 (cu2 (sgP z (30 + k) f) 1 3 0 v) else cF_addLeaf_50 v 0 (cu2 (sgP z (30 + k) f) 1 3 0 v)) := by
  obtain ⟨f, hf⟩ := one_Part z (30 + k)
  refine ⟨f, ?_⟩
  have hp : 0 < (sgP z (30 + k) f).2.1 := Nat.one_pos
  have hx : (cu2 (sgP z (30 + k) f) 1 3 0 v).1.1 1 0 0 = 30 + k := rfl
  have hc : cF_leaf k v (sg0 z) = cF_addLeaf k v (sg0 z) := by
    unfold cF_leaf
    cases cF_addLeaf k v (sg0 z) with
    | none => rfl
    | some q => rfl
  rw [hc]
  unfold cF_addLeaf
  rw [if_neg h0, if_pos h4, cPut_eq, if_pos (show (sg0 z).2.1 < (cnP (sg0 z)).2.1 from Nat.one_pos)]
  rw [show (sg0 z).2.1 = 0 from rfl, hf]
  dsimp only
  rw [if_pos hp, cPut_eq, eu2, if_pos hp, if_pos hp, hx]
theorem one_73 {σ : cS} (h0 : σ.1.1 2 1 0 = 0) (hp : 0 < σ.2.1) : ∃ σ2 : cS, cF_addLeaf_73 0 σ = some (0, σ2) ∧ σ2.2 = σ.2 := by
  obtain ⟨σ2, ea, es⟩ := one_add h0 hp
  exact ⟨σ2, by unfold cF_addLeaf_73; rw [ea], es⟩
theorem one_l0 (z : Nat × Nat) (k : Int32) (v : Int64) (hk : k = 0 ∨ k = 3) : oneR z (cF_leaf k v (sg0 z)) (mF_leaf k v mu0) := by
  have hm : ∃ μ2, mF_leaf k v mu0 = some (0, μ2) := by
    rcases hk with rfl | rfl
    · obtain ⟨μ2, e⟩ := one_35 0 v (by decide) (by decide) (by decide) (by decide)
      exact ⟨μ2, by unfold mF_leaf; rw [if_neg (by decide), if_neg (by decide), if_neg (by decide), if_pos (by decide)]; exact e⟩
    · obtain ⟨μ2, e⟩ := one_35 3 v (by decide) (by decide) (by decide) (by decide)
      exact ⟨μ2, by unfold mF_leaf; rw [if_neg (by decide), if_neg (by decide), if_neg (by decide), if_pos (by decide)]; exact e⟩
  obtain ⟨μ2, em⟩ := hm
  have h0 : ¬ k < 0 := by rcases hk with rfl | rfl <;> decide
  have h4 : k < 4 := by rcases hk with rfl | rfl <;> decide
  have n1 : ¬ 30 + k = (31 : Int32) := by rcases hk with rfl | rfl <;> decide
  have n2 : ¬ 30 + k = (32 : Int32) := by rcases hk with rfl | rfl <;> decide
  obtain ⟨f, ec⟩ := one_lc z k v h0 h4
  obtain ⟨σ2, e73, es⟩ := one_73 (σ := cu2 (sgP z (30 + k) f) 1 3 0 v) rfl Nat.one_pos
  refine one_sz (v := 0) (σ2 := σ2) (μ2 := μ2) ?_ em es
  rw [ec, if_neg n1, if_pos n2, e73]
theorem one_c16 (v : Int64) : (lg_cmp v 16 < 0 ∧ lg_cmp v 15 ≤ 0) ∨ (¬ lg_cmp v 16 < 0 ∧ ¬ lg_cmp v 15 ≤ 0) := by
  unfold lg_cmp
  have e15 : (15 : Int64).toInt = 15 := rfl
  have e16 : (16 : Int64).toInt = 16 := rfl
  have lt : ∀ x y : Int64, x.toInt < y.toInt → x < y := fun x y q => Int64.lt_iff_toInt_lt.2 q
  have nl : ∀ x y : Int64, ¬ x.toInt < y.toInt → ¬ x < y := fun x y q p => q (Int64.lt_iff_toInt_lt.1 p)
  have ne : ∀ x y : Int64, ¬ x.toInt = y.toInt → ¬ x = y := fun x y q p => q (congrArg Int64.toInt p)
  by_cases h1 : v.toInt ≤ 15
  · refine Or.inl ⟨?_, ?_⟩
    · rw [if_neg (nl 16 v (by omega)), if_neg (ne v 16 (by omega))]; decide
    · rw [if_neg (nl 15 v (by omega))]
      split <;> decide
  · refine Or.inr ⟨?_, ?_⟩
    · by_cases h2 : v.toInt = 16
      · rw [if_neg (nl 16 v (by omega)), if_pos (Int64.toInt_inj.1 (by omega))]; decide
      · rw [if_pos (lt 16 v (by omega))]; decide
    · rw [if_pos (lt 15 v (by omega))]; decide
theorem one_l1 (z : Nat × Nat) (k : Int32) (v : Int64) (hk : k = 1 ∨ k = 2) : oneR z (cF_leaf k v (sg0 z)) (mF_leaf k v mu0) := by
  have hm : mF_leaf k v mu0 = mF_leaf_19 k v mu0 ∧ ∃ μ2, mF_leaf_35 k v mu0 = some (0, μ2) := by
    rcases hk with rfl | rfl
    · exact ⟨by unfold mF_leaf; rw [if_neg (by decide), if_neg (by decide), if_pos rfl], one_35 1 v (by decide) (by decide) (by decide) (by decide)⟩
    · exact ⟨by unfold mF_leaf; rw [if_neg (by decide), if_neg (by decide), if_neg (by decide), if_neg (by decide)], one_35 2 v (by decide) (by decide) (by decide) (by decide)⟩
  have h0 : ¬ k < 0 := by rcases hk with rfl | rfl <;> decide
  have h4 : k < 4 := by rcases hk with rfl | rfl <;> decide
  obtain ⟨f, ec⟩ := one_lc z k v h0 h4
  have ec2 : cF_leaf k v (sg0 z) = cF_addLeaf_50 v 0 (cu2 (sgP z (30 + k) f) 1 3 0 v) := by
    rw [ec]
    rcases hk with rfl | rfl
    · rw [if_pos (by decide : 30 + 1 = (31 : Int32))]
    · rw [if_neg (by decide : ¬ 30 + 2 = (31 : Int32)), if_neg (fun q => q (by decide : 30 + 2 = (32 : Int32)))]
  clear ec
  obtain ⟨em, μ2, e35⟩ := hm
  rw [ec2, em]
  have hp : 0 < (cu2 (sgP z (30 + k) f) 1 3 0 v).2.1 := Nat.one_pos
  have hs : (cu2 (sgP z (30 + k) f) 1 3 0 v).1.1 2 1 0 = 0 := rfl
  have es : (cu2 (sgP z (30 + k) f) 1 3 0 v).2 = (cnP (sg0 z)).2 := rfl
  generalize cu2 (sgP z (30 + k) f) 1 3 0 v = σ at hp hs es ⊢
  unfold cF_addLeaf_50 mF_leaf_19
  by_cases h0 : lg_cmp v 0 < 0
  · rw [if_pos h0, if_pos h0]
    exact one_sz rfl rfl es
  · rw [if_neg h0, if_neg h0]
    rcases one_c16 v with ⟨h1, h2⟩ | ⟨h1, h2⟩
    · obtain ⟨σ2, e73, es2⟩ := one_73 (σ := cu1 σ 1 2 0 v.toInt32) hs hp
      rw [if_pos h1, if_pos h2, if_pos hp, cPut_eq, e73, e35]
      exact one_sz rfl rfl (es2.trans es)
    · rw [if_neg h1, if_neg h2]
      exact one_sz rfl rfl es
theorem one_leaf (z : Nat × Nat) (k : Int32) (v : Int64) : oneR z (cF_leaf k v (sg0 z)) (mF_leaf k v mu0) := by
  by_cases h0 : k < 0
  · refine oneR.of (v := -1) (σ2 := sg0 z) (μ2 := mu0) ?_ ?_ rfl
    · unfold cF_leaf cF_addLeaf; rw [if_pos h0]
    · unfold mF_leaf; rw [if_pos h0]
  have e4 : (4 : Int32).toInt = 4 := rfl
  have e3 : (3 : Int32).toInt = 3 := rfl
  have e0 : (0 : Int32).toInt = 0 := rfl
  have g0 : ¬ k.toInt < 0 := fun q => h0 (Int32.lt_iff_toInt_lt.2 (by omega))
  by_cases h4 : k < 4
  · have g4 := Int32.lt_iff_toInt_lt.1 h4
    have key : ∀ n : Int32, k.toInt = n.toInt → k = n := fun n h => Int32.toInt_inj.1 h
    have e : k.toInt = 0 ∨ k.toInt = 1 ∨ k.toInt = 2 ∨ k.toInt = 3 := by omega
    rcases e with e | e | e | e
    · exact one_l0 z k v (Or.inl (key 0 e))
    · exact one_l1 z k v (Or.inl (key 1 e))
    · exact one_l1 z k v (Or.inr (key 2 e))
    · exact one_l0 z k v (Or.inr (key 3 e))
  · refine oneR.of (v := -1) (σ2 := sg0 z) (μ2 := mu0) ?_ ?_ rfl
    · unfold cF_leaf cF_addLeaf; rw [if_neg h0, if_neg h4]
    · unfold mF_leaf
      rw [if_neg h0, if_pos (Int32.lt_iff_toInt_lt.2 (by
        have : ¬ k.toInt < 4 := fun q => h4 (Int32.lt_iff_toInt_lt.2 (by omega))
        omega))]
