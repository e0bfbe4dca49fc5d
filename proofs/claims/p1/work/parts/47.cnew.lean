/-! new Parts and Spots -/
def cnP (σ : cS) : cS := ((fun c k j => if c = 1 ∧ j = σ.2.1 then 0 else σ.1.1 c k j, (fun c k j => if c = 1 ∧ j = σ.2.1 then 0 else σ.1.2.1 c k j), fun c k j => if c = 1 ∧ j = σ.2.1 then none else σ.1.2.2 c k j), (σ.2.1 + 1, σ.2.2.1, (σ.2.2.2.1 + 1, σ.2.2.2.2 + 11)))
def cnS (σ : cS) : cS := ((fun c k j => if c = 3 ∧ j = σ.2.2.1 then 0 else σ.1.1 c k j, (fun c k j => if c = 3 ∧ j = σ.2.2.1 then 0 else σ.1.2.1 c k j), fun c k j => if c = 3 ∧ j = σ.2.2.1 then none else σ.1.2.2 c k j), (σ.2.1, σ.2.2.1 + 1, (σ.2.2.2.1 + 1, σ.2.2.2.2 + 13)))
theorem cr_eq {p p' : Nat → Nat} {o : Option Nat} (h : ∀ i, o = some i → p' i = p i) : cr p' o = cr p o := by
  cases o with
  | none => rfl
  | some i => simp only [cr]; rw [h i rfl]
theorem zpush_old {w : zW} {c n a : Nat} {f : Nat → Value} (h : a ≠ w.1.1) : (zpush w c n f).2.1 a = w.2.1 a ∧ (zpush w c n f).2.2 a = w.2.2 a := by
  refine ⟨if_neg h, ?_⟩
  funext j
  exact if_neg h
theorem cB_lt {b0 : Nat} {pa sa : Nat → Nat} {σ : cS} {w : zW} (h : cRep b0 pa sa σ w) {c k j : Nat} (ok : cOk σ c k j) : cB b0 pa sa c j < w.1.1 := by
  obtain ⟨-, h2, -, -, hp, hs, -⟩ := h
  rcases ok with ⟨rfl, -, hj⟩ | ⟨rfl, -, hj⟩ | ⟨hv, -⟩ | ⟨hr, -, -⟩
  · exact (hp j hj).2.2
  · exact (hs j hj).2.2
  · have := cO_val _ hv
    rw [cB_o this.2.1 this.2.2.1]
    have := this.1
    simp only at this
    omega
  · have := cO_row _ hr
    rw [cB_o this.2.1 this.2.2.1]
    omega
theorem cV_0P {pa sa : Nat → Nat} {σ : cS} {k : Nat} (hk : k < 11) : zBl 1 k = cV pa sa (cnP σ) 1 k σ.2.1 := by
  match k, hk with
  | 0, _ => simp [zBl, zFT, zt1, defaultValue, cV, cT, cnP]
  | 1, _ => simp [zBl, zFT, zt1, defaultValue, cV, cT, cnP]
  | 2, _ => simp [zBl, zFT, zt1, defaultValue, cV, cT, cnP]
  | 3, _ => simp [zBl, zFT, zt1, defaultValue, cV, cT, cnP]
  | 4, _ => simp [zBl, zFT, zt1, defaultValue, cV, cT, cnP, cr]
  | 5, _ => simp [zBl, zFT, zt1, defaultValue, cV, cT, cnP, cr]
  | 6, _ => simp [zBl, zFT, zt1, defaultValue, cV, cT, cnP, cr]
  | 7, _ => simp [zBl, zFT, zt1, defaultValue, cV, cT, cnP, cr]
  | 8, _ => simp [zBl, zFT, zt1, defaultValue, cV, cT, cnP]
  | 9, _ => simp [zBl, zFT, zt1, defaultValue, cV, cT, cnP]
  | 10, _ => simp [zBl, zFT, zt1, defaultValue, cV, cT, cnP]
theorem cV_0S {pa sa : Nat → Nat} {σ : cS} {k : Nat} (hk : k < 13) : zBl 3 k = cV pa sa (cnS σ) 3 k σ.2.2.1 := by
  match k, hk with
  | 0, _ => simp [zBl, zFT, zt3, defaultValue, cV, cT, cnS]
  | 1, _ => simp [zBl, zFT, zt3, defaultValue, cV, cT, cnS]
  | 2, _ => simp [zBl, zFT, zt3, defaultValue, cV, cT, cnS]
  | 3, _ => simp [zBl, zFT, zt3, defaultValue, cV, cT, cnS, cr]
  | 4, _ => simp [zBl, zFT, zt3, defaultValue, cV, cT, cnS, cr]
  | 5, _ => simp [zBl, zFT, zt3, defaultValue, cV, cT, cnS, cr]
  | 6, _ => simp [zBl, zFT, zt3, defaultValue, cV, cT, cnS, cr]
  | 7, _ => simp [zBl, zFT, zt3, defaultValue, cV, cT, cnS]
  | 8, _ => simp [zBl, zFT, zt3, defaultValue, cV, cT, cnS]
  | 9, _ => simp [zBl, zFT, zt3, defaultValue, cV, cT, cnS]
  | 10, _ => simp [zBl, zFT, zt3, defaultValue, cV, cT, cnS]
  | 11, _ => simp [zBl, zFT, zt3, defaultValue, cV, cT, cnS]
  | 12, _ => simp [zBl, zFT, zt3, defaultValue, cV, cT, cnS]
theorem cW.newP {b0 : Nat} {w0 : zW} {pa sa : Nat → Nat} {σ : cS} {w : zW} (h : cW b0 w0 pa sa σ w) : cW b0 w0 (fun j => if j = σ.2.1 then w.1.1 else pa j) sa (cnP σ) (zpush w 1 11 (zBl 1)) := by
  have hR := h.1
  obtain ⟨⟨g1, g2, g3, g4, g5, g6, g7, g8, g9⟩, g10, hF⟩ := h
  have ne : ∀ {i : Nat}, i < σ.2.1 → (fun j => if j = σ.2.1 then w.1.1 else pa j) i = pa i := fun hi => if_neg (Nat.ne_of_lt hi)
  have old : ∀ {c k j : Nat}, cOk (cnP σ) c k j → ¬ (c = 1 ∧ j = σ.2.1) → cOk σ c k j := by
    intro c k j ok hn
    rcases ok with ⟨rfl, hk, hj⟩ | ⟨rfl, hk, hj⟩ | ok | ok
    · refine Or.inl ⟨rfl, hk, ?_⟩
      have hj' : j < σ.2.1 + 1 := hj
      have : j ≠ σ.2.1 := fun e => hn ⟨rfl, e⟩
      omega
    · exact Or.inr (Or.inl ⟨rfl, hk, hj⟩)
    · exact Or.inr (Or.inr (Or.inl ok))
    · exact Or.inr (Or.inr (Or.inr ok))
  refine ⟨⟨?_, ?_, fun q hq => ?_, fun q hq => ?_, fun i hi => ?_, fun i hi => ?_, fun i j hi hj e => ?_, g8, fun c k j ok => ?_⟩, fun a h1 h2 => ?_, fun c k j i ok ht e => ?_, fun c k j i ok ht e => ?_⟩
  · show (w.1.1 + 1, w.1.2 + 11) = (σ.2.2.2.1 + 1, σ.2.2.2.2 + 11)
    rw [g1]
  · show b0 + 44 ≤ w.1.1 + 1
    omega
  · have hq2 : q.1 < 16 := (by decide : ∀ q ∈ cShp, q.1 < 16) q hq
    rw [(zpush_old (by omega)).1]
    exact g3 q hq
  · have hq2 := cO_f q hq
    rw [(zpush_old (by omega)).2]
    exact g4 q hq
  · have hi' : i < σ.2.1 + 1 := hi
    by_cases e : i = σ.2.1
    · subst e
      simp only [if_true]
      exact ⟨if_pos rfl, g2, Nat.lt_succ_self _⟩
    · obtain ⟨k1, k2, k3⟩ := g5 i (by omega)
      rw [ne (by omega), (zpush_old (by omega)).1]
      exact ⟨k1, k2, Nat.lt_succ_of_lt k3⟩
  · obtain ⟨k1, k2, k3⟩ := g6 i hi
    rw [(zpush_old (by omega)).1]
    exact ⟨k1, k2, Nat.lt_succ_of_lt k3⟩
  · have hi' : i < σ.2.1 + 1 := hi
    have hj' : j < σ.2.1 + 1 := hj
    by_cases ei : i = σ.2.1
    · by_cases ej : j = σ.2.1
      · rw [ei, ej]
      · have := (g5 j (by omega)).2.2
        have e2 : w.1.1 = pa j := by simpa [ei, ej] using e
        omega
    · by_cases ej : j = σ.2.1
      · have := (g5 i (by omega)).2.2
        have e2 : pa i = w.1.1 := by simpa [ei, ej] using e
        omega
      · exact g7 i j (by omega) (by omega) (by simpa [ei, ej] using e)
  · by_cases hn : c = 1 ∧ j = σ.2.1
    · obtain ⟨rfl, rfl⟩ := hn
      rcases ok with ⟨-, hk, -⟩ | ⟨h3, -⟩ | ⟨hv, -⟩ | ⟨hr, -⟩
      · rw [← cV_0P hk]
        show (zpush w 1 11 (zBl 1)).2.2 (if σ.2.1 = σ.2.1 then w.1.1 else pa σ.2.1) k = zBl 1 k
        rw [if_pos rfl]
        exact if_pos rfl
      · cases h3
      · exact absurd rfl (cO_val _ hv).2.1
      · exact absurd rfl (cO_row _ hr).2.1
    · have ok0 := old ok hn
      have eB : cB b0 (fun j => if j = σ.2.1 then w.1.1 else pa j) sa c j = cB b0 pa sa c j := by
        rcases ok0 with ⟨rfl, -, hj⟩ | ⟨rfl, -, hj⟩ | ⟨hv, -⟩ | ⟨hr, -, -⟩
        · exact ne hj
        · rfl
        · have := cO_val _ hv; rw [cB_o this.2.1 this.2.2.1, cB_o this.2.1 this.2.2.1]
        · have := cO_row _ hr; rw [cB_o this.2.1 this.2.2.1, cB_o this.2.1 this.2.2.1]
      have hlt := cB_lt hR ok0
      rw [eB, (zpush_old (by omega)).2, g9 c k j ok0]
      unfold cV
      have hcj : ¬ (c = 1 ∧ j = σ.2.1) := hn
      have e3 : (cnP σ).1.2.2 c k j = σ.1.2.2 c k j := if_neg hcj
      have e1 : (cnP σ).1.1 c k j = σ.1.1 c k j := if_neg hcj
      have e2 : (cnP σ).1.2.1 c k j = σ.1.2.1 c k j := if_neg hcj
      rw [e1, e2, e3]
      split
      · rfl
      · rfl
      · rename_i ht
        exact (cr_eq (fun i hi => ne (hF.1 c k j i ok0 ht hi))).symm
      · rfl
  · rw [(zpush_old (by omega)).1, (zpush_old (by omega)).2]
    exact g10 a h1 h2
  · by_cases hn : c = 1 ∧ j = σ.2.1
    · simp only [cnP, hn, and_self, if_true] at e
      cases e
    · simp only [cnP, hn, if_false] at e
      exact Nat.lt_succ_of_lt (hF.1 c k j i (old ok hn) ht e)
  · by_cases hn : c = 1 ∧ j = σ.2.1
    · simp only [cnP, hn, and_self, if_true] at e
      cases e
    · simp only [cnP, hn, if_false] at e
      exact hF.2 c k j i (old ok hn) ht e
