theorem c_T4 : ∀ c k, cT c k < 4 := by
  intro c k
  unfold cT
  split <;> decide
theorem c_T3 {c k : Nat} (h0 : ¬ cT c k = 0) (h1 : ¬ cT c k = 1) (h2 : ¬ cT c k = 2) : cT c k = 3 := by
  have := c_T4 c k
  omega
theorem cW.newS {b0 : Nat} {w0 : zW} {pa sa : Nat → Nat} {σ : cS} {w : zW} (h : cW b0 w0 pa sa σ w) : cW b0 w0 pa (fun j => if j = σ.2.2.1 then w.1.1 else sa j) (cnS σ) (zpush w 3 13 (zBl 3)) := by
  have hR := h.1
  obtain ⟨⟨g1, g2, g3, g4, g5, g6, g7, g8, g9⟩, g10, hF⟩ := h
  have ne : ∀ {i : Nat}, i < σ.2.2.1 → (fun j => if j = σ.2.2.1 then w.1.1 else sa j) i = sa i := fun hi => if_neg (Nat.ne_of_lt hi)
  have old : ∀ {c k j : Nat}, cOk (cnS σ) c k j → ¬ (c = 3 ∧ j = σ.2.2.1) → cOk σ c k j := by
    intro c k j ok hn
    rcases ok with ⟨rfl, hk, hj⟩ | ⟨rfl, hk, hj⟩ | ok | ok
    · exact Or.inl ⟨rfl, hk, hj⟩
    · refine Or.inr (Or.inl ⟨rfl, hk, ?_⟩)
      have hj' : j < σ.2.2.1 + 1 := hj
      have : j ≠ σ.2.2.1 := fun e => hn ⟨rfl, e⟩
      omega
    · exact Or.inr (Or.inr (Or.inl ok))
    · exact Or.inr (Or.inr (Or.inr ok))
  refine ⟨⟨?_, ?_, fun q hq => ?_, fun q hq => ?_, fun i hi => ?_, fun i hi => ?_, g7, fun i j hi hj e => ?_, fun c k j ok => ?_⟩, fun a h1 h2 => ?_, fun c k j i ok ht e => ?_, fun c k j i ok ht e => ?_⟩
  · show (w.1.1 + 1, w.1.2 + 13) = (σ.2.2.2.1 + 1, σ.2.2.2.2 + 13)
    rw [g1]
  · show b0 + 44 ≤ w.1.1 + 1
    omega
  · have hq2 : q.1 < 16 := (by decide : ∀ q ∈ cShp, q.1 < 16) q hq
    rw [(zpush_old (by omega)).1]
    exact g3 q hq
  · have hq2 := cO_f q hq
    rw [(zpush_old (by omega)).2]
    exact g4 q hq
  · obtain ⟨k1, k2, k3⟩ := g5 i hi
    rw [(zpush_old (by omega)).1]
    exact ⟨k1, k2, Nat.lt_succ_of_lt k3⟩
  · have hi' : i < σ.2.2.1 + 1 := hi
    by_cases e : i = σ.2.2.1
    · subst e
      simp only [if_true]
      exact ⟨if_pos rfl, g2, Nat.lt_succ_self _⟩
    · obtain ⟨k1, k2, k3⟩ := g6 i (by omega)
      rw [ne (by omega), (zpush_old (by omega)).1]
      exact ⟨k1, k2, Nat.lt_succ_of_lt k3⟩
  · have hi' : i < σ.2.2.1 + 1 := hi
    have hj' : j < σ.2.2.1 + 1 := hj
    by_cases ei : i = σ.2.2.1
    · by_cases ej : j = σ.2.2.1
      · rw [ei, ej]
      · have := (g6 j (by omega)).2.2
        have e2 : w.1.1 = sa j := by simpa [ei, ej] using e
        omega
    · by_cases ej : j = σ.2.2.1
      · have := (g6 i (by omega)).2.2
        have e2 : sa i = w.1.1 := by simpa [ei, ej] using e
        omega
      · exact g8 i j (by omega) (by omega) (by simpa [ei, ej] using e)
  · by_cases hn : c = 3 ∧ j = σ.2.2.1
    · obtain ⟨rfl, rfl⟩ := hn
      rcases ok with ⟨h3, -⟩ | ⟨-, hk, -⟩ | ⟨hv, -⟩ | ⟨hr, -⟩
      · cases h3
      · rw [← cV_0S hk]
        show (zpush w 3 13 (zBl 3)).2.2 (if σ.2.2.1 = σ.2.2.1 then w.1.1 else sa σ.2.2.1) k = zBl 3 k
        rw [if_pos rfl]
        exact if_pos rfl
      · exact absurd rfl (cO_val _ hv).2.2.1
      · exact absurd rfl (cO_row _ hr).2.2.1
    · have ok0 := old ok hn
      have eB : cB b0 pa (fun j => if j = σ.2.2.1 then w.1.1 else sa j) c j = cB b0 pa sa c j := by
        rcases ok0 with ⟨rfl, -, hj⟩ | ⟨rfl, -, hj⟩ | ⟨hv, -⟩ | ⟨hr, -, -⟩
        · rfl
        · exact ne hj
        · have := cO_val _ hv; rw [cB_o this.2.1 this.2.2.1, cB_o this.2.1 this.2.2.1]
        · have := cO_row _ hr; rw [cB_o this.2.1 this.2.2.1, cB_o this.2.1 this.2.2.1]
      have hlt := cB_lt hR ok0
      rw [eB, (zpush_old (by omega)).2, g9 c k j ok0]
      unfold cV
      have hcj : ¬ (c = 3 ∧ j = σ.2.2.1) := hn
      have e3 : (cnS σ).1.2.2 c k j = σ.1.2.2 c k j := if_neg hcj
      have e1 : (cnS σ).1.1 c k j = σ.1.1 c k j := if_neg hcj
      have e2 : (cnS σ).1.2.1 c k j = σ.1.2.1 c k j := if_neg hcj
      rw [e1, e2, e3]
      split
      · rfl
      · rfl
      · rfl
      · rename_i h0 h1 h2
        have ht : cT c k = 3 := c_T3 h0 h1 h2
        exact (cr_eq (fun i hi => ne (hF.2 c k j i ok0 ht hi))).symm
  · rw [(zpush_old (by omega)).1, (zpush_old (by omega)).2]
    exact g10 a h1 h2
  · by_cases hn : c = 3 ∧ j = σ.2.2.1
    · simp only [cnS, hn, and_self, if_true] at e
      cases e
    · simp only [cnS, hn, if_false] at e
      exact hF.1 c k j i (old ok hn) ht e
  · by_cases hn : c = 3 ∧ j = σ.2.2.1
    · simp only [cnS, hn, and_self, if_true] at e
      cases e
    · simp only [cnS, hn, if_false] at e
      exact Nat.lt_succ_of_lt (hF.2 c k j i (old ok hn) ht e)
section ZC3
variable {S : zS} {d mi pc : Nat} {L : List (Nat × Value)} {r : List Value} {w w0 : zW} {Post : Option Value → zW → Prop} {b0 : Nat} {pa sa : Nat → Nat} {σ : cS}
theorem zc_newP {idx : Nat} (h : cW b0 w0 pa sa σ w) (hd : zI mi pc = some (.new idx, 3)) (hf : zNew (zOC mi) idx = some 1) (kk : ∀ pa2 w2, cW b0 w0 pa2 sa (cnP σ) w2 → zOk S d mi (pc + 3) L (.ref (pa2 σ.2.1) :: r) w2 Post) : zOk S d mi pc L r w Post := by
  have e := kk _ _ h.newP
  simp only [if_true] at e
  exact zi_new hd hf e
theorem zc_newS {idx : Nat} (h : cW b0 w0 pa sa σ w) (hd : zI mi pc = some (.new idx, 3)) (hf : zNew (zOC mi) idx = some 3) (kk : ∀ sa2 w2, (∀ i, i < σ.2.2.1 → sa2 i = sa i) → cW b0 w0 pa sa2 (cnS σ) w2 → zOk S d mi (pc + 3) L (.ref (sa2 σ.2.2.1) :: r) w2 Post) : zOk S d mi pc L r w Post := by
  have e := kk _ _ (fun i hi => if_neg (Nat.ne_of_lt hi)) h.newS
  simp only [if_true] at e
  exact zi_new hd hf e
end ZC3
