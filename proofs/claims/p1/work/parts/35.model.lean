/-! the reference decompiled: functions over its state, and that its code runs them (by wip/whole/gen4.py) -/
def mF_giveUp_272 (g_giveUp : Int32 → mS → Option (Unit × mS)) (g_go : Int32 → mS → Option (Int32 × mS)) (l1 : Int32) (μ : mS) : Option (Unit × mS) :=
  if zix l1 500 then mPut (mu1 μ 13 (l1).toNatClampNeg (0 : Int32)) fun m2 => some ((), m2) else none
theorem mT_giveUp_272 {S : zS} {q : Nat} {w w0 : zW} {Post : Option Value → zW → Prop} {m0 : Nat} {μ μ2 : mS} {v : Unit} {g_giveUp : Int32 → mS → Option (Unit × mS)} {g_go : Int32 → mS → Option (Int32 × mS)} {l1 : Int32} (hq : 1 ≤ q) (H_giveUp : ∀ {x1 : Int32} {ν ν2 : mS} {y : Unit} {w : zW} {P : Option Value → zW → Prop}, g_giveUp x1 ν = some (y, ν2) → mW m0 w0 ν w → (∀ w2, mW m0 w0 ν2 w2 → P none w2) → zOk S q 88 0 (lv_args 0 [.ref m0, .int x1]) [] w P) (H_go : ∀ {x1 : Int32} {ν ν2 : mS} {y : Int32} {w : zW} {P : Option Value → zW → Prop}, g_go x1 ν = some (y, ν2) → mW m0 w0 ν w → (∀ w2, mW m0 w0 ν2 w2 → P (some (.int y)) w2) → zOk S q 89 0 (lv_args 0 [.ref m0, .int x1]) [] w P) (hk : mF_giveUp_272 g_giveUp g_go l1 μ = some (v, μ2)) (h : mW m0 w0 μ w) (k : ∀ w2, mW m0 w0 μ2 w2 → Post none w2) : zOk S (q + 1) 88 272 [(0, .ref m0), (1, .int l1)] [] w Post := by
  unfold mF_giveUp_272 at hk
  refine zi_l rfl rfl rfl ?_
  refine zm_ga (f := 13) h rfl rfl (by decide) ?_
  refine zi_l rfl rfl rfl ?_
  refine zi_a (st' := .int 0 :: _) rfl rfl rfl ?_
  by_cases q1 : zix l1 500
  case neg => rw [if_neg q1] at hk; cases hk
  rw [if_pos q1] at hk
  refine zm_sz (f := 13) h rfl (by decide) rfl rfl q1 (fun w h => ?_)
  generalize mu1 μ 13 (l1).toNatClampNeg (0 : Int32) = m2 at h hk
  rw [mPut_eq] at hk
  cases hk
  exact zi_ret rfl rfl rfl (k w h)
def mF_giveUp_109 (g_giveUp : Int32 → mS → Option (Unit × mS)) (g_go : Int32 → mS → Option (Int32 × mS)) (l1 : Int32) (s1 : Int32) (μ : mS) : Option (Unit × mS) :=
  match g_giveUp s1 μ with | none => none | some (v2, m3) => mF_giveUp_272 g_giveUp g_go l1 m3
theorem mT_giveUp_109 {S : zS} {q : Nat} {w w0 : zW} {Post : Option Value → zW → Prop} {m0 : Nat} {μ μ2 : mS} {v : Unit} {g_giveUp : Int32 → mS → Option (Unit × mS)} {g_go : Int32 → mS → Option (Int32 × mS)} {l1 : Int32} {s1 : Int32} (hq : 1 ≤ q) (H_giveUp : ∀ {x1 : Int32} {ν ν2 : mS} {y : Unit} {w : zW} {P : Option Value → zW → Prop}, g_giveUp x1 ν = some (y, ν2) → mW m0 w0 ν w → (∀ w2, mW m0 w0 ν2 w2 → P none w2) → zOk S q 88 0 (lv_args 0 [.ref m0, .int x1]) [] w P) (H_go : ∀ {x1 : Int32} {ν ν2 : mS} {y : Int32} {w : zW} {P : Option Value → zW → Prop}, g_go x1 ν = some (y, ν2) → mW m0 w0 ν w → (∀ w2, mW m0 w0 ν2 w2 → P (some (.int y)) w2) → zOk S q 89 0 (lv_args 0 [.ref m0, .int x1]) [] w P) (hk : mF_giveUp_109 g_giveUp g_go l1 s1 μ = some (v, μ2)) (h : mW m0 w0 μ w) (k : ∀ w2, mW m0 w0 μ2 w2 → Post none w2) : zOk S (q + 1) 88 109 [(0, .ref m0), (1, .int l1)] [.int s1, .ref m0] w Post := by
  unfold mF_giveUp_109 at hk
  cases c1 : g_giveUp s1 μ with
  | none => rw [c1] at hk; cases hk
  | some q1 =>
    obtain ⟨v2, m3⟩ := q1
    rw [c1] at hk
    dsimp only at hk
    refine zm_c h rfl rfl rfl rfl rfl rfl (H_giveUp c1 h (fun w h => ?_))
    refine zi_go rfl rfl rfl (tgt := 272) (by decide) ?_
    exact mT_giveUp_272 hq H_giveUp H_go hk h k
def mF_giveUp_84 (g_giveUp : Int32 → mS → Option (Unit × mS)) (g_go : Int32 → mS → Option (Int32 × mS)) (l1 : Int32) (μ : mS) : Option (Unit × mS) :=
  if zix l1 500 then if ¬ (μ.1 14 (l1).toNatClampNeg) = 0 then (if zix l1 500 then mF_giveUp_109 g_giveUp g_go l1 (μ.1 12 (l1).toNatClampNeg) μ else none) else (if zix l1 500 then mF_giveUp_109 g_giveUp g_go l1 (μ.1 11 (l1).toNatClampNeg) μ else none) else none
theorem mT_giveUp_84 {S : zS} {q : Nat} {w w0 : zW} {Post : Option Value → zW → Prop} {m0 : Nat} {μ μ2 : mS} {v : Unit} {g_giveUp : Int32 → mS → Option (Unit × mS)} {g_go : Int32 → mS → Option (Int32 × mS)} {l1 : Int32} (hq : 1 ≤ q) (H_giveUp : ∀ {x1 : Int32} {ν ν2 : mS} {y : Unit} {w : zW} {P : Option Value → zW → Prop}, g_giveUp x1 ν = some (y, ν2) → mW m0 w0 ν w → (∀ w2, mW m0 w0 ν2 w2 → P none w2) → zOk S q 88 0 (lv_args 0 [.ref m0, .int x1]) [] w P) (H_go : ∀ {x1 : Int32} {ν ν2 : mS} {y : Int32} {w : zW} {P : Option Value → zW → Prop}, g_go x1 ν = some (y, ν2) → mW m0 w0 ν w → (∀ w2, mW m0 w0 ν2 w2 → P (some (.int y)) w2) → zOk S q 89 0 (lv_args 0 [.ref m0, .int x1]) [] w P) (hk : mF_giveUp_84 g_giveUp g_go l1 μ = some (v, μ2)) (h : mW m0 w0 μ w) (k : ∀ w2, mW m0 w0 μ2 w2 → Post none w2) : zOk S (q + 1) 88 84 [(0, .ref m0), (1, .int l1)] [] w Post := by
  unfold mF_giveUp_84 at hk
  refine zi_l rfl rfl rfl ?_
  refine zi_l rfl rfl rfl ?_
  refine zm_ga (f := 14) h rfl rfl (by decide) ?_
  refine zi_l rfl rfl rfl ?_
  by_cases q1 : zix l1 500
  case neg => rw [if_neg q1] at hk; cases hk
  rw [if_pos q1] at hk
  refine zm_ld (f := 14) h rfl (by decide) rfl q1 ?_
  refine zi_ifd rfl rfl rfl (tgt := 103) (by decide) (fun c2 => ?_) (fun c2 => ?_)
  · rw [if_pos c2] at hk
    refine zi_l rfl rfl rfl ?_
    refine zm_ga (f := 12) h rfl rfl (by decide) ?_
    refine zi_l rfl rfl rfl ?_
    by_cases q3 : zix l1 500
    case neg => rw [if_neg q3] at hk; cases hk
    rw [if_pos q3] at hk
    refine zm_ld (f := 12) h rfl (by decide) rfl q3 ?_
    exact mT_giveUp_109 hq H_giveUp H_go hk h k
  · rw [if_neg c2] at hk
    refine zi_l rfl rfl rfl ?_
    refine zm_ga (f := 11) h rfl rfl (by decide) ?_
    refine zi_l rfl rfl rfl ?_
    by_cases q4 : zix l1 500
    case neg => rw [if_neg q4] at hk; cases hk
    rw [if_pos q4] at hk
    refine zm_ld (f := 11) h rfl (by decide) rfl q4 ?_
    refine zi_go rfl rfl rfl (tgt := 109) (by decide) ?_
    exact mT_giveUp_109 hq H_giveUp H_go hk h k
def mF_giveUp_150 (g_giveUp : Int32 → mS → Option (Unit × mS)) (g_go : Int32 → mS → Option (Int32 × mS)) (l1 : Int32) (s1 : Int32) (μ : mS) : Option (Unit × mS) :=
  match g_giveUp s1 μ with | none => none | some (v2, m3) => mF_giveUp_272 g_giveUp g_go l1 m3
theorem mT_giveUp_150 {S : zS} {q : Nat} {w w0 : zW} {Post : Option Value → zW → Prop} {m0 : Nat} {μ μ2 : mS} {v : Unit} {g_giveUp : Int32 → mS → Option (Unit × mS)} {g_go : Int32 → mS → Option (Int32 × mS)} {l1 : Int32} {s1 : Int32} (hq : 1 ≤ q) (H_giveUp : ∀ {x1 : Int32} {ν ν2 : mS} {y : Unit} {w : zW} {P : Option Value → zW → Prop}, g_giveUp x1 ν = some (y, ν2) → mW m0 w0 ν w → (∀ w2, mW m0 w0 ν2 w2 → P none w2) → zOk S q 88 0 (lv_args 0 [.ref m0, .int x1]) [] w P) (H_go : ∀ {x1 : Int32} {ν ν2 : mS} {y : Int32} {w : zW} {P : Option Value → zW → Prop}, g_go x1 ν = some (y, ν2) → mW m0 w0 ν w → (∀ w2, mW m0 w0 ν2 w2 → P (some (.int y)) w2) → zOk S q 89 0 (lv_args 0 [.ref m0, .int x1]) [] w P) (hk : mF_giveUp_150 g_giveUp g_go l1 s1 μ = some (v, μ2)) (h : mW m0 w0 μ w) (k : ∀ w2, mW m0 w0 μ2 w2 → Post none w2) : zOk S (q + 1) 88 150 [(0, .ref m0), (1, .int l1)] [.int s1, .ref m0] w Post := by
  unfold mF_giveUp_150 at hk
  cases c1 : g_giveUp s1 μ with
  | none => rw [c1] at hk; cases hk
  | some q1 =>
    obtain ⟨v2, m3⟩ := q1
    rw [c1] at hk
    dsimp only at hk
    refine zm_c h rfl rfl rfl rfl rfl rfl (H_giveUp c1 h (fun w h => ?_))
    refine zi_go rfl rfl rfl (tgt := 272) (by decide) ?_
    exact mT_giveUp_272 hq H_giveUp H_go hk h k
def mF_giveUp_190 (g_giveUp : Int32 → mS → Option (Unit × mS)) (g_go : Int32 → mS → Option (Int32 × mS)) (l1 : Int32) (μ : mS) : Option (Unit × mS) :=
  if zix l1 500 then if ¬ ((μ.1 14 (l1).toNatClampNeg) &&& (2 : Int32)) = 0 then (mF_giveUp_272 g_giveUp g_go l1 μ) else (if zix l1 500 then match g_giveUp (μ.1 12 (l1).toNatClampNeg) μ with | none => none | some (v5, m6) => mF_giveUp_272 g_giveUp g_go l1 m6 else none) else none
theorem mT_giveUp_190 {S : zS} {q : Nat} {w w0 : zW} {Post : Option Value → zW → Prop} {m0 : Nat} {μ μ2 : mS} {v : Unit} {g_giveUp : Int32 → mS → Option (Unit × mS)} {g_go : Int32 → mS → Option (Int32 × mS)} {l1 : Int32} (hq : 1 ≤ q) (H_giveUp : ∀ {x1 : Int32} {ν ν2 : mS} {y : Unit} {w : zW} {P : Option Value → zW → Prop}, g_giveUp x1 ν = some (y, ν2) → mW m0 w0 ν w → (∀ w2, mW m0 w0 ν2 w2 → P none w2) → zOk S q 88 0 (lv_args 0 [.ref m0, .int x1]) [] w P) (H_go : ∀ {x1 : Int32} {ν ν2 : mS} {y : Int32} {w : zW} {P : Option Value → zW → Prop}, g_go x1 ν = some (y, ν2) → mW m0 w0 ν w → (∀ w2, mW m0 w0 ν2 w2 → P (some (.int y)) w2) → zOk S q 89 0 (lv_args 0 [.ref m0, .int x1]) [] w P) (hk : mF_giveUp_190 g_giveUp g_go l1 μ = some (v, μ2)) (h : mW m0 w0 μ w) (k : ∀ w2, mW m0 w0 μ2 w2 → Post none w2) : zOk S (q + 1) 88 190 [(0, .ref m0), (1, .int l1)] [] w Post := by
  unfold mF_giveUp_190 at hk
  refine zi_l rfl rfl rfl ?_
  refine zm_ga (f := 14) h rfl rfl (by decide) ?_
  refine zi_l rfl rfl rfl ?_
  by_cases q1 : zix l1 500
  case neg => rw [if_neg q1] at hk; cases hk
  rw [if_pos q1] at hk
  refine zm_ld (f := 14) h rfl (by decide) rfl q1 ?_
  refine zi_a (st' := .int 2 :: _) rfl rfl rfl ?_
  refine zi_a rfl rfl rfl ?_
  refine zi_ifd rfl rfl rfl (tgt := 272) (by decide) (fun c2 => ?_) (fun c2 => ?_)
  · rw [if_pos c2] at hk
    exact mT_giveUp_272 hq H_giveUp H_go hk h k
  · rw [if_neg c2] at hk
    refine zi_l rfl rfl rfl ?_
    refine zi_l rfl rfl rfl ?_
    refine zm_ga (f := 12) h rfl rfl (by decide) ?_
    refine zi_l rfl rfl rfl ?_
    by_cases q3 : zix l1 500
    case neg => rw [if_neg q3] at hk; cases hk
    rw [if_pos q3] at hk
    refine zm_ld (f := 12) h rfl (by decide) rfl q3 ?_
    cases c4 : g_giveUp (μ.1 12 (l1).toNatClampNeg) μ with
    | none => rw [c4] at hk; cases hk
    | some q1 =>
      obtain ⟨v5, m6⟩ := q1
      rw [c4] at hk
      dsimp only at hk
      refine zm_c h rfl rfl rfl rfl rfl rfl (H_giveUp c4 h (fun w h => ?_))
      refine zi_go rfl rfl rfl (tgt := 272) (by decide) ?_
      exact mT_giveUp_272 hq H_giveUp H_go hk h k
def mF_giveUp_233 (g_giveUp : Int32 → mS → Option (Unit × mS)) (g_go : Int32 → mS → Option (Int32 × mS)) (l1 : Int32) (μ : mS) : Option (Unit × mS) :=
  mPut (mu1 μ 28 0 (1 : Int32)) fun m1 => if zix l1 500 then match g_go (m1.1 12 (l1).toNatClampNeg) m1 with | none => none | some (v4, m5) => if (μ.1 28 0) = 0 ∨ (μ.1 28 0) = 1 then mPut (mu1 m5 28 0 (μ.1 28 0)) fun m7 => if zix l1 500 then match mF_close (m7.1 10 (l1).toNatClampNeg) m7 with | none => none | some (v10, m11) => mF_giveUp_272 g_giveUp g_go l1 m11 else none else none else none
theorem mT_giveUp_233 {S : zS} {q : Nat} {w w0 : zW} {Post : Option Value → zW → Prop} {m0 : Nat} {μ μ2 : mS} {v : Unit} {g_giveUp : Int32 → mS → Option (Unit × mS)} {g_go : Int32 → mS → Option (Int32 × mS)} {l1 : Int32} (hq : 1 ≤ q) (H_giveUp : ∀ {x1 : Int32} {ν ν2 : mS} {y : Unit} {w : zW} {P : Option Value → zW → Prop}, g_giveUp x1 ν = some (y, ν2) → mW m0 w0 ν w → (∀ w2, mW m0 w0 ν2 w2 → P none w2) → zOk S q 88 0 (lv_args 0 [.ref m0, .int x1]) [] w P) (H_go : ∀ {x1 : Int32} {ν ν2 : mS} {y : Int32} {w : zW} {P : Option Value → zW → Prop}, g_go x1 ν = some (y, ν2) → mW m0 w0 ν w → (∀ w2, mW m0 w0 ν2 w2 → P (some (.int y)) w2) → zOk S q 89 0 (lv_args 0 [.ref m0, .int x1]) [] w P) (hk : mF_giveUp_233 g_giveUp g_go l1 μ = some (v, μ2)) (h : mW m0 w0 μ w) (k : ∀ w2, mW m0 w0 μ2 w2 → Post none w2) : zOk S (q + 1) 88 233 [(0, .ref m0), (1, .int l1)] [] w Post := by
  unfold mF_giveUp_233 at hk
  refine zi_l rfl rfl rfl ?_
  refine zm_g h rfl rfl rfl rfl ?_
  refine zi_l rfl rfl rfl ?_
  refine zi_l rfl rfl rfl ?_
  refine zi_a (st' := .int 1 :: _) rfl rfl rfl ?_
  refine zm_p h rfl rfl rfl rfl ⟨rfl, rfl, Or.inl rfl⟩ (fun w h => ?_)
  generalize mu1 μ 28 0 (1 : Int32) = m1 at h hk
  rw [mPut_eq] at hk
  refine zi_l rfl rfl rfl ?_
  refine zi_l rfl rfl rfl ?_
  refine zm_ga (f := 12) h rfl rfl (by decide) ?_
  refine zi_l rfl rfl rfl ?_
  by_cases q2 : zix l1 500
  case neg => rw [if_neg q2] at hk; cases hk
  rw [if_pos q2] at hk
  refine zm_ld (f := 12) h rfl (by decide) rfl q2 ?_
  cases c3 : g_go (m1.1 12 (l1).toNatClampNeg) m1 with
  | none => rw [c3] at hk; cases hk
  | some q1 =>
    obtain ⟨v4, m5⟩ := q1
    rw [c3] at hk
    dsimp only at hk
    refine zm_c h rfl rfl rfl rfl rfl rfl (H_go c3 h (fun w h => ?_))
    refine zi_l rfl rfl rfl ?_
    refine zi_l rfl rfl rfl ?_
    refine zi_l rfl rfl rfl ?_
    by_cases q6 : (μ.1 28 0) = 0 ∨ (μ.1 28 0) = 1
    case neg => rw [if_neg q6] at hk; cases hk
    rw [if_pos q6] at hk
    refine zm_p h rfl rfl rfl rfl ⟨z_nb q6, z_fb q6, Or.inl rfl⟩ (fun w h => ?_)
    generalize mu1 m5 28 0 (μ.1 28 0) = m7 at h hk
    rw [mPut_eq] at hk
    refine zi_l rfl rfl rfl ?_
    refine zi_l rfl rfl rfl ?_
    refine zm_ga (f := 10) h rfl rfl (by decide) ?_
    refine zi_l rfl rfl rfl ?_
    by_cases q8 : zix l1 500
    case neg => rw [if_neg q8] at hk; cases hk
    rw [if_pos q8] at hk
    refine zm_ld (f := 10) h rfl (by decide) rfl q8 ?_
    cases c9 : mF_close (m7.1 10 (l1).toNatClampNeg) m7 with
    | none => rw [c9] at hk; cases hk
    | some q1 =>
      obtain ⟨v10, m11⟩ := q1
      rw [c9] at hk
      dsimp only at hk
      refine zm_c h rfl rfl rfl rfl rfl rfl ((mT_close (q := 0) (Nat.le_refl _) c9 h (fun w h => ?_)).deep (by omega))
      refine zi_go rfl rfl rfl (tgt := 272) (by decide) ?_
      refine zk_sub [0, 1] rfl rfl ?_
      exact mT_giveUp_272 hq H_giveUp H_go hk h k
def mF_giveUp (g_giveUp : Int32 → mS → Option (Unit × mS)) (g_go : Int32 → mS → Option (Int32 × mS)) (a1 : Int32) (μ : mS) : Option (Unit × mS) :=
  if zix a1 500 then if ¬ (μ.1 13 (a1).toNatClampNeg) = 0 then (if zix a1 500 then if zix (μ.1 10 (a1).toNatClampNeg) 200 then if ((μ.1 1 ((μ.1 10 (a1).toNatClampNeg)).toNatClampNeg)).toInt < 10 ∨ 21 < ((μ.1 1 ((μ.1 10 (a1).toNatClampNeg)).toNatClampNeg)).toInt then (mF_giveUp_272 g_giveUp g_go a1 μ) else if (μ.1 1 ((μ.1 10 (a1).toNatClampNeg)).toNatClampNeg) = 10 then (mF_giveUp_84 g_giveUp g_go a1 μ) else if (μ.1 1 ((μ.1 10 (a1).toNatClampNeg)).toNatClampNeg) = 11 then (mF_giveUp_272 g_giveUp g_go a1 μ) else if (μ.1 1 ((μ.1 10 (a1).toNatClampNeg)).toNatClampNeg) = 12 then (mF_giveUp_272 g_giveUp g_go a1 μ) else if (μ.1 1 ((μ.1 10 (a1).toNatClampNeg)).toNatClampNeg) = 13 then (mF_giveUp_272 g_giveUp g_go a1 μ) else if (μ.1 1 ((μ.1 10 (a1).toNatClampNeg)).toNatClampNeg) = 14 then (mF_giveUp_272 g_giveUp g_go a1 μ) else if (μ.1 1 ((μ.1 10 (a1).toNatClampNeg)).toNatClampNeg) = 15 then (if zix a1 500 then if ¬ ((μ.1 14 (a1).toNatClampNeg) &&& (1 : Int32)) = 0 then (mF_giveUp_190 g_giveUp g_go a1 μ) else (if zix a1 500 then match g_giveUp (μ.1 11 (a1).toNatClampNeg) μ with | none => none | some (v16, m17) => mF_giveUp_190 g_giveUp g_go a1 m17 else none) else none) else if (μ.1 1 ((μ.1 10 (a1).toNatClampNeg)).toNatClampNeg) = 16 then (if zix a1 500 then if (2 : Int32) ≤ (μ.1 14 (a1).toNatClampNeg) then (mF_giveUp_272 g_giveUp g_go a1 μ) else (if zix a1 500 then if ¬ (μ.1 14 (a1).toNatClampNeg) = 0 then (if zix a1 500 then mF_giveUp_150 g_giveUp g_go a1 (μ.1 12 (a1).toNatClampNeg) μ else none) else (if zix a1 500 then mF_giveUp_150 g_giveUp g_go a1 (μ.1 11 (a1).toNatClampNeg) μ else none) else none) else none) else if (μ.1 1 ((μ.1 10 (a1).toNatClampNeg)).toNatClampNeg) = 17 then (if zix a1 500 then match g_giveUp (μ.1 11 (a1).toNatClampNeg) μ with | none => none | some (v28, m29) => mF_giveUp_272 g_giveUp g_go a1 m29 else none) else if (μ.1 1 ((μ.1 10 (a1).toNatClampNeg)).toNatClampNeg) = 18 then (mF_giveUp_84 g_giveUp g_go a1 μ) else if (μ.1 1 ((μ.1 10 (a1).toNatClampNeg)).toNatClampNeg) = 19 then (mF_giveUp_272 g_giveUp g_go a1 μ) else if (μ.1 1 ((μ.1 10 (a1).toNatClampNeg)).toNatClampNeg) = 20 then (mF_giveUp_272 g_giveUp g_go a1 μ) else if (μ.1 1 ((μ.1 10 (a1).toNatClampNeg)).toNatClampNeg) = 21 then (if zix a1 500 then if ¬ (μ.1 14 (a1).toNatClampNeg) = 0 then (mF_giveUp_233 g_giveUp g_go a1 μ) else (if zix a1 500 then match g_giveUp (μ.1 11 (a1).toNatClampNeg) μ with | none => none | some (v38, m39) => mF_giveUp_233 g_giveUp g_go a1 m39 else none) else none) else none else none else none) else (some ((), μ)) else none
theorem mT_giveUp {S : zS} {q : Nat} {w w0 : zW} {Post : Option Value → zW → Prop} {m0 : Nat} {μ μ2 : mS} {v : Unit} {g_giveUp : Int32 → mS → Option (Unit × mS)} {g_go : Int32 → mS → Option (Int32 × mS)} {a1 : Int32} (hq : 1 ≤ q) (H_giveUp : ∀ {x1 : Int32} {ν ν2 : mS} {y : Unit} {w : zW} {P : Option Value → zW → Prop}, g_giveUp x1 ν = some (y, ν2) → mW m0 w0 ν w → (∀ w2, mW m0 w0 ν2 w2 → P none w2) → zOk S q 88 0 (lv_args 0 [.ref m0, .int x1]) [] w P) (H_go : ∀ {x1 : Int32} {ν ν2 : mS} {y : Int32} {w : zW} {P : Option Value → zW → Prop}, g_go x1 ν = some (y, ν2) → mW m0 w0 ν w → (∀ w2, mW m0 w0 ν2 w2 → P (some (.int y)) w2) → zOk S q 89 0 (lv_args 0 [.ref m0, .int x1]) [] w P) (hk : mF_giveUp g_giveUp g_go a1 μ = some (v, μ2)) (h : mW m0 w0 μ w) (k : ∀ w2, mW m0 w0 μ2 w2 → Post none w2) : zOk S (q + 1) 88 0 (lv_args 0 [.ref m0, .int a1]) [] w Post := by
  unfold mF_giveUp at hk
  refine zi_l rfl rfl rfl ?_
  refine zm_ga (f := 13) h rfl rfl (by decide) ?_
  refine zi_l rfl rfl rfl ?_
  by_cases q1 : zix a1 500
  case neg => rw [if_neg q1] at hk; cases hk
  rw [if_pos q1] at hk
  refine zm_lz (f := 13) h rfl (by decide) rfl q1 ?_
  refine zi_ifd rfl rfl rfl (tgt := 10) (by decide) (fun c2 => ?_) (fun c2 => ?_)
  · rw [if_pos c2] at hk
    refine zi_l rfl rfl rfl ?_
    refine zm_ga (f := 1) h rfl rfl (by decide) ?_
    refine zi_l rfl rfl rfl ?_
    refine zm_ga (f := 10) h rfl rfl (by decide) ?_
    refine zi_l rfl rfl rfl ?_
    by_cases q3 : zix a1 500
    case neg => rw [if_neg q3] at hk; cases hk
    rw [if_pos q3] at hk
    refine zm_ld (f := 10) h rfl (by decide) rfl q3 ?_
    by_cases q4 : zix (μ.1 10 (a1).toNatClampNeg) 200
    case neg => rw [if_neg q4] at hk; cases hk
    rw [if_pos q4] at hk
    refine zm_ld (f := 1) h rfl (by decide) rfl q4 ?_
    by_cases c5 : ((μ.1 1 ((μ.1 10 (a1).toNatClampNeg)).toNatClampNeg)).toInt < 10 ∨ 21 < ((μ.1 1 ((μ.1 10 (a1).toNatClampNeg)).toNatClampNeg)).toInt
    · rw [if_pos c5] at hk
      refine zi_sd rfl c5 (tgt := 272) (by decide) ?_
      exact mT_giveUp_272 hq H_giveUp H_go hk h k
    rw [if_neg c5] at hk
    by_cases e6 : (μ.1 1 ((μ.1 10 (a1).toNatClampNeg)).toNatClampNeg) = 10
    · rw [if_pos e6] at hk
      refine zi_si rfl c5 (off := 63) (by rw [e6]; rfl) (tgt := 84) (by decide) ?_
      exact mT_giveUp_84 hq H_giveUp H_go hk h k
    rw [if_neg e6] at hk
    by_cases e7 : (μ.1 1 ((μ.1 10 (a1).toNatClampNeg)).toNatClampNeg) = 11
    · rw [if_pos e7] at hk
      refine zi_si rfl c5 (off := 251) (by rw [e7]; rfl) (tgt := 272) (by decide) ?_
      exact mT_giveUp_272 hq H_giveUp H_go hk h k
    rw [if_neg e7] at hk
    by_cases e8 : (μ.1 1 ((μ.1 10 (a1).toNatClampNeg)).toNatClampNeg) = 12
    · rw [if_pos e8] at hk
      refine zi_si rfl c5 (off := 251) (by rw [e8]; rfl) (tgt := 272) (by decide) ?_
      exact mT_giveUp_272 hq H_giveUp H_go hk h k
    rw [if_neg e8] at hk
    by_cases e9 : (μ.1 1 ((μ.1 10 (a1).toNatClampNeg)).toNatClampNeg) = 13
    · rw [if_pos e9] at hk
      refine zi_si rfl c5 (off := 251) (by rw [e9]; rfl) (tgt := 272) (by decide) ?_
      exact mT_giveUp_272 hq H_giveUp H_go hk h k
    rw [if_neg e9] at hk
    by_cases e10 : (μ.1 1 ((μ.1 10 (a1).toNatClampNeg)).toNatClampNeg) = 14
    · rw [if_pos e10] at hk
      refine zi_si rfl c5 (off := 251) (by rw [e10]; rfl) (tgt := 272) (by decide) ?_
      exact mT_giveUp_272 hq H_giveUp H_go hk h k
    rw [if_neg e10] at hk
    by_cases e11 : (μ.1 1 ((μ.1 10 (a1).toNatClampNeg)).toNatClampNeg) = 15
    · rw [if_pos e11] at hk
      refine zi_si rfl c5 (off := 148) (by rw [e11]; rfl) (tgt := 169) (by decide) ?_
      refine zi_l rfl rfl rfl ?_
      refine zm_ga (f := 14) h rfl rfl (by decide) ?_
      refine zi_l rfl rfl rfl ?_
      by_cases q12 : zix a1 500
      case neg => rw [if_neg q12] at hk; cases hk
      rw [if_pos q12] at hk
      refine zm_ld (f := 14) h rfl (by decide) rfl q12 ?_
      refine zi_a (st' := .int 1 :: _) rfl rfl rfl ?_
      refine zi_a rfl rfl rfl ?_
      refine zi_ifd rfl rfl rfl (tgt := 190) (by decide) (fun c13 => ?_) (fun c13 => ?_)
      · rw [if_pos c13] at hk
        exact mT_giveUp_190 hq H_giveUp H_go hk h k
      · rw [if_neg c13] at hk
        refine zi_l rfl rfl rfl ?_
        refine zi_l rfl rfl rfl ?_
        refine zm_ga (f := 11) h rfl rfl (by decide) ?_
        refine zi_l rfl rfl rfl ?_
        by_cases q14 : zix a1 500
        case neg => rw [if_neg q14] at hk; cases hk
        rw [if_pos q14] at hk
        refine zm_ld (f := 11) h rfl (by decide) rfl q14 ?_
        cases c15 : g_giveUp (μ.1 11 (a1).toNatClampNeg) μ with
        | none => rw [c15] at hk; cases hk
        | some q1 =>
          obtain ⟨v16, m17⟩ := q1
          rw [c15] at hk
          dsimp only at hk
          refine zm_c h rfl rfl rfl rfl rfl rfl (H_giveUp c15 h (fun w h => ?_))
          exact mT_giveUp_190 hq H_giveUp H_go hk h k
    rw [if_neg e11] at hk
    by_cases e18 : (μ.1 1 ((μ.1 10 (a1).toNatClampNeg)).toNatClampNeg) = 16
    · rw [if_pos e18] at hk
      refine zi_si rfl c5 (off := 94) (by rw [e18]; rfl) (tgt := 115) (by decide) ?_
      refine zi_l rfl rfl rfl ?_
      refine zm_ga (f := 14) h rfl rfl (by decide) ?_
      refine zi_l rfl rfl rfl ?_
      by_cases q19 : zix a1 500
      case neg => rw [if_neg q19] at hk; cases hk
      rw [if_pos q19] at hk
      refine zm_ld (f := 14) h rfl (by decide) rfl q19 ?_
      refine zi_a (st' := .int 2 :: _) rfl rfl rfl ?_
      refine zi_ifd rfl rfl rfl (tgt := 272) (by decide) (fun c20 => ?_) (fun c20 => ?_)
      · rw [if_pos c20] at hk
        exact mT_giveUp_272 hq H_giveUp H_go hk h k
      · rw [if_neg c20] at hk
        refine zi_l rfl rfl rfl ?_
        refine zi_l rfl rfl rfl ?_
        refine zm_ga (f := 14) h rfl rfl (by decide) ?_
        refine zi_l rfl rfl rfl ?_
        by_cases q21 : zix a1 500
        case neg => rw [if_neg q21] at hk; cases hk
        rw [if_pos q21] at hk
        refine zm_ld (f := 14) h rfl (by decide) rfl q21 ?_
        refine zi_ifd rfl rfl rfl (tgt := 144) (by decide) (fun c22 => ?_) (fun c22 => ?_)
        · rw [if_pos c22] at hk
          refine zi_l rfl rfl rfl ?_
          refine zm_ga (f := 12) h rfl rfl (by decide) ?_
          refine zi_l rfl rfl rfl ?_
          by_cases q23 : zix a1 500
          case neg => rw [if_neg q23] at hk; cases hk
          rw [if_pos q23] at hk
          refine zm_ld (f := 12) h rfl (by decide) rfl q23 ?_
          exact mT_giveUp_150 hq H_giveUp H_go hk h k
        · rw [if_neg c22] at hk
          refine zi_l rfl rfl rfl ?_
          refine zm_ga (f := 11) h rfl rfl (by decide) ?_
          refine zi_l rfl rfl rfl ?_
          by_cases q24 : zix a1 500
          case neg => rw [if_neg q24] at hk; cases hk
          rw [if_pos q24] at hk
          refine zm_ld (f := 11) h rfl (by decide) rfl q24 ?_
          refine zi_go rfl rfl rfl (tgt := 150) (by decide) ?_
          exact mT_giveUp_150 hq H_giveUp H_go hk h k
    rw [if_neg e18] at hk
    by_cases e25 : (μ.1 1 ((μ.1 10 (a1).toNatClampNeg)).toNatClampNeg) = 17
    · rw [if_pos e25] at hk
      refine zi_si rfl c5 (off := 135) (by rw [e25]; rfl) (tgt := 156) (by decide) ?_
      refine zi_l rfl rfl rfl ?_
      refine zi_l rfl rfl rfl ?_
      refine zm_ga (f := 11) h rfl rfl (by decide) ?_
      refine zi_l rfl rfl rfl ?_
      by_cases q26 : zix a1 500
      case neg => rw [if_neg q26] at hk; cases hk
      rw [if_pos q26] at hk
      refine zm_ld (f := 11) h rfl (by decide) rfl q26 ?_
      cases c27 : g_giveUp (μ.1 11 (a1).toNatClampNeg) μ with
      | none => rw [c27] at hk; cases hk
      | some q1 =>
        obtain ⟨v28, m29⟩ := q1
        rw [c27] at hk
        dsimp only at hk
        refine zm_c h rfl rfl rfl rfl rfl rfl (H_giveUp c27 h (fun w h => ?_))
        refine zi_go rfl rfl rfl (tgt := 272) (by decide) ?_
        exact mT_giveUp_272 hq H_giveUp H_go hk h k
    rw [if_neg e25] at hk
    by_cases e30 : (μ.1 1 ((μ.1 10 (a1).toNatClampNeg)).toNatClampNeg) = 18
    · rw [if_pos e30] at hk
      refine zi_si rfl c5 (off := 63) (by rw [e30]; rfl) (tgt := 84) (by decide) ?_
      exact mT_giveUp_84 hq H_giveUp H_go hk h k
    rw [if_neg e30] at hk
    by_cases e31 : (μ.1 1 ((μ.1 10 (a1).toNatClampNeg)).toNatClampNeg) = 19
    · rw [if_pos e31] at hk
      refine zi_si rfl c5 (off := 251) (by rw [e31]; rfl) (tgt := 272) (by decide) ?_
      exact mT_giveUp_272 hq H_giveUp H_go hk h k
    rw [if_neg e31] at hk
    by_cases e32 : (μ.1 1 ((μ.1 10 (a1).toNatClampNeg)).toNatClampNeg) = 20
    · rw [if_pos e32] at hk
      refine zi_si rfl c5 (off := 251) (by rw [e32]; rfl) (tgt := 272) (by decide) ?_
      exact mT_giveUp_272 hq H_giveUp H_go hk h k
    rw [if_neg e32] at hk
    by_cases e33 : (μ.1 1 ((μ.1 10 (a1).toNatClampNeg)).toNatClampNeg) = 21
    · rw [if_pos e33] at hk
      refine zi_si rfl c5 (off := 193) (by rw [e33]; rfl) (tgt := 214) (by decide) ?_
      refine zi_l rfl rfl rfl ?_
      refine zm_ga (f := 14) h rfl rfl (by decide) ?_
      refine zi_l rfl rfl rfl ?_
      by_cases q34 : zix a1 500
      case neg => rw [if_neg q34] at hk; cases hk
      rw [if_pos q34] at hk
      refine zm_ld (f := 14) h rfl (by decide) rfl q34 ?_
      refine zi_ifd rfl rfl rfl (tgt := 233) (by decide) (fun c35 => ?_) (fun c35 => ?_)
      · rw [if_pos c35] at hk
        exact mT_giveUp_233 hq H_giveUp H_go hk h k
      · rw [if_neg c35] at hk
        refine zi_l rfl rfl rfl ?_
        refine zi_l rfl rfl rfl ?_
        refine zm_ga (f := 11) h rfl rfl (by decide) ?_
        refine zi_l rfl rfl rfl ?_
        by_cases q36 : zix a1 500
        case neg => rw [if_neg q36] at hk; cases hk
        rw [if_pos q36] at hk
        refine zm_ld (f := 11) h rfl (by decide) rfl q36 ?_
        cases c37 : g_giveUp (μ.1 11 (a1).toNatClampNeg) μ with
        | none => rw [c37] at hk; cases hk
        | some q1 =>
          obtain ⟨v38, m39⟩ := q1
          rw [c37] at hk
          dsimp only at hk
          refine zm_c h rfl rfl rfl rfl rfl rfl (H_giveUp c37 h (fun w h => ?_))
          exact mT_giveUp_233 hq H_giveUp H_go hk h k
    rw [if_neg e33] at hk
    cases hk
  · rw [if_neg c2] at hk
    cases hk
    exact zi_ret rfl rfl rfl (k w h)
def mF_look_109 (g_look : Int32 → mS → Option (Int32 × mS)) (g_reckon : Int32 → mS → Option (Int64 × mS)) (g_giveUp : Int32 → mS → Option (Unit × mS)) (l1 : Int32) (s1 : Int32) (μ : mS) : Option (Int32 × mS) :=
  match g_look s1 μ with | none => none | some (v2, m3) => if v2 = 0 ∨ v2 = 1 then some (v2, m3) else none
theorem mT_look_109 {S : zS} {q : Nat} {w w0 : zW} {Post : Option Value → zW → Prop} {m0 : Nat} {μ μ2 : mS} {v : Int32} {g_look : Int32 → mS → Option (Int32 × mS)} {g_reckon : Int32 → mS → Option (Int64 × mS)} {g_giveUp : Int32 → mS → Option (Unit × mS)} {l1 : Int32} {s1 : Int32} (hq : 3 ≤ q) (H_look : ∀ {x1 : Int32} {ν ν2 : mS} {y : Int32} {w : zW} {P : Option Value → zW → Prop}, g_look x1 ν = some (y, ν2) → mW m0 w0 ν w → (∀ w2, mW m0 w0 ν2 w2 → P (some (.int y)) w2) → zOk S q 84 0 (lv_args 0 [.ref m0, .int x1]) [] w P) (H_reckon : ∀ {x1 : Int32} {ν ν2 : mS} {y : Int64} {w : zW} {P : Option Value → zW → Prop}, g_reckon x1 ν = some (y, ν2) → mW m0 w0 ν w → (∀ w2, mW m0 w0 ν2 w2 → P (some (.long y)) w2) → zOk S q 85 0 (lv_args 0 [.ref m0, .int x1]) [] w P) (H_giveUp : ∀ {x1 : Int32} {ν ν2 : mS} {y : Unit} {w : zW} {P : Option Value → zW → Prop}, g_giveUp x1 ν = some (y, ν2) → mW m0 w0 ν w → (∀ w2, mW m0 w0 ν2 w2 → P none w2) → zOk S q 88 0 (lv_args 0 [.ref m0, .int x1]) [] w P) (hk : mF_look_109 g_look g_reckon g_giveUp l1 s1 μ = some (v, μ2)) (h : mW m0 w0 μ w) (k : ∀ w2, mW m0 w0 μ2 w2 → Post (some (.int v)) w2) : zOk S (q + 1) 84 109 [(0, .ref m0), (1, .int l1)] [.int s1, .ref m0] w Post := by
  unfold mF_look_109 at hk
  cases c1 : g_look s1 μ with
  | none => rw [c1] at hk; cases hk
  | some q1 =>
    obtain ⟨v2, m3⟩ := q1
    rw [c1] at hk
    dsimp only at hk
    refine zm_c h rfl rfl rfl rfl rfl rfl (H_look c1 h (fun w h => ?_))
    by_cases q4 : v2 = 0 ∨ v2 = 1
    case neg => rw [if_neg q4] at hk; cases hk
    rw [if_pos q4] at hk
    cases hk
    exact zi_rz rfl rfl q4 (k w h)
def mF_look_154 (g_look : Int32 → mS → Option (Int32 × mS)) (g_reckon : Int32 → mS → Option (Int64 × mS)) (g_giveUp : Int32 → mS → Option (Unit × mS)) (l1 : Int32) (μ : mS) : Option (Int32 × mS) :=
  some ((1 : Int32), μ)
theorem mT_look_154 {S : zS} {q : Nat} {w w0 : zW} {Post : Option Value → zW → Prop} {m0 : Nat} {μ μ2 : mS} {v : Int32} {g_look : Int32 → mS → Option (Int32 × mS)} {g_reckon : Int32 → mS → Option (Int64 × mS)} {g_giveUp : Int32 → mS → Option (Unit × mS)} {l1 : Int32} (hq : 3 ≤ q) (H_look : ∀ {x1 : Int32} {ν ν2 : mS} {y : Int32} {w : zW} {P : Option Value → zW → Prop}, g_look x1 ν = some (y, ν2) → mW m0 w0 ν w → (∀ w2, mW m0 w0 ν2 w2 → P (some (.int y)) w2) → zOk S q 84 0 (lv_args 0 [.ref m0, .int x1]) [] w P) (H_reckon : ∀ {x1 : Int32} {ν ν2 : mS} {y : Int64} {w : zW} {P : Option Value → zW → Prop}, g_reckon x1 ν = some (y, ν2) → mW m0 w0 ν w → (∀ w2, mW m0 w0 ν2 w2 → P (some (.long y)) w2) → zOk S q 85 0 (lv_args 0 [.ref m0, .int x1]) [] w P) (H_giveUp : ∀ {x1 : Int32} {ν ν2 : mS} {y : Unit} {w : zW} {P : Option Value → zW → Prop}, g_giveUp x1 ν = some (y, ν2) → mW m0 w0 ν w → (∀ w2, mW m0 w0 ν2 w2 → P none w2) → zOk S q 88 0 (lv_args 0 [.ref m0, .int x1]) [] w P) (hk : mF_look_154 g_look g_reckon g_giveUp l1 μ = some (v, μ2)) (h : mW m0 w0 μ w) (k : ∀ w2, mW m0 w0 μ2 w2 → Post (some (.int v)) w2) : zOk S (q + 1) 84 154 [(0, .ref m0), (1, .int l1)] [] w Post := by
  unfold mF_look_154 at hk
  refine zi_a (st' := .int 1 :: _) rfl rfl rfl ?_
  refine zi_go rfl rfl rfl (tgt := 159) (by decide) ?_
  cases hk
  exact zi_rz rfl rfl (Or.inr rfl) (k w h)
def mF_look_148 (g_look : Int32 → mS → Option (Int32 × mS)) (g_reckon : Int32 → mS → Option (Int64 × mS)) (g_giveUp : Int32 → mS → Option (Unit × mS)) (l1 : Int32) (s1 : Int32) (μ : mS) : Option (Int32 × mS) :=
  match g_look s1 μ with | none => none | some (v2, m3) => if v2 = 0 then (some ((0 : Int32), m3)) else (mF_look_154 g_look g_reckon g_giveUp l1 m3)
theorem mT_look_148 {S : zS} {q : Nat} {w w0 : zW} {Post : Option Value → zW → Prop} {m0 : Nat} {μ μ2 : mS} {v : Int32} {g_look : Int32 → mS → Option (Int32 × mS)} {g_reckon : Int32 → mS → Option (Int64 × mS)} {g_giveUp : Int32 → mS → Option (Unit × mS)} {l1 : Int32} {s1 : Int32} (hq : 3 ≤ q) (H_look : ∀ {x1 : Int32} {ν ν2 : mS} {y : Int32} {w : zW} {P : Option Value → zW → Prop}, g_look x1 ν = some (y, ν2) → mW m0 w0 ν w → (∀ w2, mW m0 w0 ν2 w2 → P (some (.int y)) w2) → zOk S q 84 0 (lv_args 0 [.ref m0, .int x1]) [] w P) (H_reckon : ∀ {x1 : Int32} {ν ν2 : mS} {y : Int64} {w : zW} {P : Option Value → zW → Prop}, g_reckon x1 ν = some (y, ν2) → mW m0 w0 ν w → (∀ w2, mW m0 w0 ν2 w2 → P (some (.long y)) w2) → zOk S q 85 0 (lv_args 0 [.ref m0, .int x1]) [] w P) (H_giveUp : ∀ {x1 : Int32} {ν ν2 : mS} {y : Unit} {w : zW} {P : Option Value → zW → Prop}, g_giveUp x1 ν = some (y, ν2) → mW m0 w0 ν w → (∀ w2, mW m0 w0 ν2 w2 → P none w2) → zOk S q 88 0 (lv_args 0 [.ref m0, .int x1]) [] w P) (hk : mF_look_148 g_look g_reckon g_giveUp l1 s1 μ = some (v, μ2)) (h : mW m0 w0 μ w) (k : ∀ w2, mW m0 w0 μ2 w2 → Post (some (.int v)) w2) : zOk S (q + 1) 84 148 [(0, .ref m0), (1, .int l1)] [.int s1, .ref m0] w Post := by
  unfold mF_look_148 at hk
  cases c1 : g_look s1 μ with
  | none => rw [c1] at hk; cases hk
  | some q1 =>
    obtain ⟨v2, m3⟩ := q1
    rw [c1] at hk
    dsimp only at hk
    refine zm_c h rfl rfl rfl rfl rfl rfl (H_look c1 h (fun w h => ?_))
    refine zi_ifd rfl rfl rfl (tgt := 158) (by decide) (fun c4 => ?_) (fun c4 => ?_)
    · rw [if_pos c4] at hk
      refine zi_a (st' := .int 0 :: _) rfl rfl rfl ?_
      cases hk
      exact zi_rz rfl rfl (Or.inl rfl) (k w h)
    · rw [if_neg c4] at hk
      exact mT_look_154 hq H_look H_reckon H_giveUp hk h k
def mF_look_219 (g_look : Int32 → mS → Option (Int32 × mS)) (g_reckon : Int32 → mS → Option (Int64 × mS)) (g_giveUp : Int32 → mS → Option (Unit × mS)) (l1 : Int32) (μ : mS) : Option (Int32 × mS) :=
  some ((1 : Int32), μ)
theorem mT_look_219 {S : zS} {q : Nat} {w w0 : zW} {Post : Option Value → zW → Prop} {m0 : Nat} {μ μ2 : mS} {v : Int32} {g_look : Int32 → mS → Option (Int32 × mS)} {g_reckon : Int32 → mS → Option (Int64 × mS)} {g_giveUp : Int32 → mS → Option (Unit × mS)} {l1 : Int32} (hq : 3 ≤ q) (H_look : ∀ {x1 : Int32} {ν ν2 : mS} {y : Int32} {w : zW} {P : Option Value → zW → Prop}, g_look x1 ν = some (y, ν2) → mW m0 w0 ν w → (∀ w2, mW m0 w0 ν2 w2 → P (some (.int y)) w2) → zOk S q 84 0 (lv_args 0 [.ref m0, .int x1]) [] w P) (H_reckon : ∀ {x1 : Int32} {ν ν2 : mS} {y : Int64} {w : zW} {P : Option Value → zW → Prop}, g_reckon x1 ν = some (y, ν2) → mW m0 w0 ν w → (∀ w2, mW m0 w0 ν2 w2 → P (some (.long y)) w2) → zOk S q 85 0 (lv_args 0 [.ref m0, .int x1]) [] w P) (H_giveUp : ∀ {x1 : Int32} {ν ν2 : mS} {y : Unit} {w : zW} {P : Option Value → zW → Prop}, g_giveUp x1 ν = some (y, ν2) → mW m0 w0 ν w → (∀ w2, mW m0 w0 ν2 w2 → P none w2) → zOk S q 88 0 (lv_args 0 [.ref m0, .int x1]) [] w P) (hk : mF_look_219 g_look g_reckon g_giveUp l1 μ = some (v, μ2)) (h : mW m0 w0 μ w) (k : ∀ w2, mW m0 w0 μ2 w2 → Post (some (.int v)) w2) : zOk S (q + 1) 84 219 [(0, .ref m0), (1, .int l1)] [] w Post := by
  unfold mF_look_219 at hk
  refine zi_a (st' := .int 1 :: _) rfl rfl rfl ?_
  refine zi_go rfl rfl rfl (tgt := 224) (by decide) ?_
  cases hk
  exact zi_rz rfl rfl (Or.inr rfl) (k w h)
def mF_look_195 (g_look : Int32 → mS → Option (Int32 × mS)) (g_reckon : Int32 → mS → Option (Int64 × mS)) (g_giveUp : Int32 → mS → Option (Unit × mS)) (l1 : Int32) (μ : mS) : Option (Int32 × mS) :=
  if zix l1 500 then if ¬ ((μ.1 14 (l1).toNatClampNeg) &&& (2 : Int32)) = 0 then (mF_look_219 g_look g_reckon g_giveUp l1 μ) else (if zix l1 500 then match g_look (μ.1 12 (l1).toNatClampNeg) μ with | none => none | some (v5, m6) => if v5 = 0 then (some ((0 : Int32), m6)) else (mF_look_219 g_look g_reckon g_giveUp l1 m6) else none) else none
theorem mT_look_195 {S : zS} {q : Nat} {w w0 : zW} {Post : Option Value → zW → Prop} {m0 : Nat} {μ μ2 : mS} {v : Int32} {g_look : Int32 → mS → Option (Int32 × mS)} {g_reckon : Int32 → mS → Option (Int64 × mS)} {g_giveUp : Int32 → mS → Option (Unit × mS)} {l1 : Int32} (hq : 3 ≤ q) (H_look : ∀ {x1 : Int32} {ν ν2 : mS} {y : Int32} {w : zW} {P : Option Value → zW → Prop}, g_look x1 ν = some (y, ν2) → mW m0 w0 ν w → (∀ w2, mW m0 w0 ν2 w2 → P (some (.int y)) w2) → zOk S q 84 0 (lv_args 0 [.ref m0, .int x1]) [] w P) (H_reckon : ∀ {x1 : Int32} {ν ν2 : mS} {y : Int64} {w : zW} {P : Option Value → zW → Prop}, g_reckon x1 ν = some (y, ν2) → mW m0 w0 ν w → (∀ w2, mW m0 w0 ν2 w2 → P (some (.long y)) w2) → zOk S q 85 0 (lv_args 0 [.ref m0, .int x1]) [] w P) (H_giveUp : ∀ {x1 : Int32} {ν ν2 : mS} {y : Unit} {w : zW} {P : Option Value → zW → Prop}, g_giveUp x1 ν = some (y, ν2) → mW m0 w0 ν w → (∀ w2, mW m0 w0 ν2 w2 → P none w2) → zOk S q 88 0 (lv_args 0 [.ref m0, .int x1]) [] w P) (hk : mF_look_195 g_look g_reckon g_giveUp l1 μ = some (v, μ2)) (h : mW m0 w0 μ w) (k : ∀ w2, mW m0 w0 μ2 w2 → Post (some (.int v)) w2) : zOk S (q + 1) 84 195 [(0, .ref m0), (1, .int l1)] [] w Post := by
  unfold mF_look_195 at hk
  refine zi_l rfl rfl rfl ?_
  refine zm_ga (f := 14) h rfl rfl (by decide) ?_
  refine zi_l rfl rfl rfl ?_
  by_cases q1 : zix l1 500
  case neg => rw [if_neg q1] at hk; cases hk
  rw [if_pos q1] at hk
  refine zm_ld (f := 14) h rfl (by decide) rfl q1 ?_
  refine zi_a (st' := .int 2 :: _) rfl rfl rfl ?_
  refine zi_a rfl rfl rfl ?_
  refine zi_ifd rfl rfl rfl (tgt := 219) (by decide) (fun c2 => ?_) (fun c2 => ?_)
  · rw [if_pos c2] at hk
    exact mT_look_219 hq H_look H_reckon H_giveUp hk h k
  · rw [if_neg c2] at hk
    refine zi_l rfl rfl rfl ?_
    refine zi_l rfl rfl rfl ?_
    refine zm_ga (f := 12) h rfl rfl (by decide) ?_
    refine zi_l rfl rfl rfl ?_
    by_cases q3 : zix l1 500
    case neg => rw [if_neg q3] at hk; cases hk
    rw [if_pos q3] at hk
    refine zm_ld (f := 12) h rfl (by decide) rfl q3 ?_
    cases c4 : g_look (μ.1 12 (l1).toNatClampNeg) μ with
    | none => rw [c4] at hk; cases hk
    | some q1 =>
      obtain ⟨v5, m6⟩ := q1
      rw [c4] at hk
      dsimp only at hk
      refine zm_c h rfl rfl rfl rfl rfl rfl (H_look c4 h (fun w h => ?_))
      refine zi_ifd rfl rfl rfl (tgt := 223) (by decide) (fun c7 => ?_) (fun c7 => ?_)
      · rw [if_pos c7] at hk
        refine zi_a (st' := .int 0 :: _) rfl rfl rfl ?_
        cases hk
        exact zi_rz rfl rfl (Or.inl rfl) (k w h)
      · rw [if_neg c7] at hk
        exact mT_look_219 hq H_look H_reckon H_giveUp hk h k
def mF_look_248 (g_look : Int32 → mS → Option (Int32 × mS)) (g_reckon : Int32 → mS → Option (Int64 × mS)) (g_giveUp : Int32 → mS → Option (Unit × mS)) (l1 : Int32) (μ : mS) : Option (Int32 × mS) :=
  some ((1 : Int32), μ)
theorem mT_look_248 {S : zS} {q : Nat} {w w0 : zW} {Post : Option Value → zW → Prop} {m0 : Nat} {μ μ2 : mS} {v : Int32} {g_look : Int32 → mS → Option (Int32 × mS)} {g_reckon : Int32 → mS → Option (Int64 × mS)} {g_giveUp : Int32 → mS → Option (Unit × mS)} {l1 : Int32} (hq : 3 ≤ q) (H_look : ∀ {x1 : Int32} {ν ν2 : mS} {y : Int32} {w : zW} {P : Option Value → zW → Prop}, g_look x1 ν = some (y, ν2) → mW m0 w0 ν w → (∀ w2, mW m0 w0 ν2 w2 → P (some (.int y)) w2) → zOk S q 84 0 (lv_args 0 [.ref m0, .int x1]) [] w P) (H_reckon : ∀ {x1 : Int32} {ν ν2 : mS} {y : Int64} {w : zW} {P : Option Value → zW → Prop}, g_reckon x1 ν = some (y, ν2) → mW m0 w0 ν w → (∀ w2, mW m0 w0 ν2 w2 → P (some (.long y)) w2) → zOk S q 85 0 (lv_args 0 [.ref m0, .int x1]) [] w P) (H_giveUp : ∀ {x1 : Int32} {ν ν2 : mS} {y : Unit} {w : zW} {P : Option Value → zW → Prop}, g_giveUp x1 ν = some (y, ν2) → mW m0 w0 ν w → (∀ w2, mW m0 w0 ν2 w2 → P none w2) → zOk S q 88 0 (lv_args 0 [.ref m0, .int x1]) [] w P) (hk : mF_look_248 g_look g_reckon g_giveUp l1 μ = some (v, μ2)) (h : mW m0 w0 μ w) (k : ∀ w2, mW m0 w0 μ2 w2 → Post (some (.int v)) w2) : zOk S (q + 1) 84 248 [(0, .ref m0), (1, .int l1)] [] w Post := by
  unfold mF_look_248 at hk
  refine zi_a (st' := .int 1 :: _) rfl rfl rfl ?_
  refine zi_go rfl rfl rfl (tgt := 253) (by decide) ?_
  cases hk
  exact zi_rz rfl rfl (Or.inr rfl) (k w h)
def mF_look (g_look : Int32 → mS → Option (Int32 × mS)) (g_reckon : Int32 → mS → Option (Int64 × mS)) (g_giveUp : Int32 → mS → Option (Unit × mS)) (a1 : Int32) (μ : mS) : Option (Int32 × mS) :=
  if zix a1 500 then if ¬ (μ.1 13 (a1).toNatClampNeg) = 0 then (if zix a1 500 then if zix (μ.1 10 (a1).toNatClampNeg) 200 then if ((μ.1 1 ((μ.1 10 (a1).toNatClampNeg)).toNatClampNeg)).toInt < 10 ∨ 21 < ((μ.1 1 ((μ.1 10 (a1).toNatClampNeg)).toNatClampNeg)).toInt then (some ((1 : Int32), μ)) else if (μ.1 1 ((μ.1 10 (a1).toNatClampNeg)).toNatClampNeg) = 10 then (if zix a1 500 then if ¬ (μ.1 14 (a1).toNatClampNeg) = 0 then (if zix a1 500 then mF_look_109 g_look g_reckon g_giveUp a1 (μ.1 12 (a1).toNatClampNeg) μ else none) else (if zix a1 500 then mF_look_109 g_look g_reckon g_giveUp a1 (μ.1 11 (a1).toNatClampNeg) μ else none) else none) else if (μ.1 1 ((μ.1 10 (a1).toNatClampNeg)).toNatClampNeg) = 11 then (some ((1 : Int32), μ)) else if (μ.1 1 ((μ.1 10 (a1).toNatClampNeg)).toNatClampNeg) = 12 then (some ((1 : Int32), μ)) else if (μ.1 1 ((μ.1 10 (a1).toNatClampNeg)).toNatClampNeg) = 13 then (some ((1 : Int32), μ)) else if (μ.1 1 ((μ.1 10 (a1).toNatClampNeg)).toNatClampNeg) = 14 then (some ((1 : Int32), μ)) else if (μ.1 1 ((μ.1 10 (a1).toNatClampNeg)).toNatClampNeg) = 15 then (if zix a1 500 then if ¬ ((μ.1 14 (a1).toNatClampNeg) &&& (1 : Int32)) = 0 then (mF_look_195 g_look g_reckon g_giveUp a1 μ) else (if zix a1 500 then match g_look (μ.1 11 (a1).toNatClampNeg) μ with | none => none | some (v20, m21) => if v20 = 0 then (some ((0 : Int32), m21)) else (mF_look_195 g_look g_reckon g_giveUp a1 m21) else none) else none) else if (μ.1 1 ((μ.1 10 (a1).toNatClampNeg)).toNatClampNeg) = 16 then (if zix a1 500 then if (μ.1 14 (a1).toNatClampNeg) = (2 : Int32) then (mF_look_154 g_look g_reckon g_giveUp a1 μ) else (if zix a1 500 then if ¬ (μ.1 14 (a1).toNatClampNeg) = 0 then (if zix a1 500 then mF_look_148 g_look g_reckon g_giveUp a1 (μ.1 12 (a1).toNatClampNeg) μ else none) else (if zix a1 500 then mF_look_148 g_look g_reckon g_giveUp a1 (μ.1 11 (a1).toNatClampNeg) μ else none) else none) else none) else if (μ.1 1 ((μ.1 10 (a1).toNatClampNeg)).toNatClampNeg) = 17 then (if zix a1 500 then match g_look (μ.1 11 (a1).toNatClampNeg) μ with | none => none | some (v33, m34) => if v33 = 0 ∨ v33 = 1 then some (v33, m34) else none else none) else if (μ.1 1 ((μ.1 10 (a1).toNatClampNeg)).toNatClampNeg) = 18 then (if zix a1 500 then if ¬ (μ.1 14 (a1).toNatClampNeg) = (1 : Int32) then (if zix a1 500 then if zix (μ.1 10 (a1).toNatClampNeg) 200 then match g_reckon (μ.1 2 ((μ.1 10 (a1).toNatClampNeg)).toNatClampNeg) μ with | none => none | some (v42, m43) => match mF_isBad  m43 with | none => none | some (v45, m46) => if v45 = 0 then (if (lg_cmp v42 (0 : Int64)) = 0 then (if zix a1 500 then match mF_note (m46.1 10 (a1).toNatClampNeg) (3 : Int32) m46 with | none => none | some (v51, m52) => if zix a1 500 then match g_giveUp (m52.1 11 (a1).toNatClampNeg) m52 with | none => none | some (v55, m56) => if zix a1 500 then mPut (mu1 m56 14 (a1).toNatClampNeg (1 : Int32)) fun m58 => if zix a1 500 then if zix (m58.1 12 (a1).toNatClampNeg) 500 then mPut (mu1 m58 13 ((m58.1 12 (a1).toNatClampNeg)).toNatClampNeg (0 : Int32)) fun m61 => some ((1 : Int32), m61) else none else none else none else none else none) else (if zix a1 500 then match g_look (m46.1 11 (a1).toNatClampNeg) m46 with | none => none | some (v64, m65) => if v64 = 0 ∨ v64 = 1 then some (v64, m65) else none else none)) else (some ((0 : Int32), m46)) else none else none) else (if zix a1 500 then match g_look (μ.1 12 (a1).toNatClampNeg) μ with | none => none | some (v69, m70) => if v69 = 0 ∨ v69 = 1 then some (v69, m70) else none else none) else none) else if (μ.1 1 ((μ.1 10 (a1).toNatClampNeg)).toNatClampNeg) = 19 then (some ((1 : Int32), μ)) else if (μ.1 1 ((μ.1 10 (a1).toNatClampNeg)).toNatClampNeg) = 20 then (some ((1 : Int32), μ)) else if (μ.1 1 ((μ.1 10 (a1).toNatClampNeg)).toNatClampNeg) = 21 then (if zix a1 500 then if (μ.1 14 (a1).toNatClampNeg) = (1 : Int32) then (mF_look_248 g_look g_reckon g_giveUp a1 μ) else (if zix a1 500 then match g_look (μ.1 11 (a1).toNatClampNeg) μ with | none => none | some (v79, m80) => if v79 = 0 then (some ((0 : Int32), m80)) else (mF_look_248 g_look g_reckon g_giveUp a1 m80) else none) else none) else none else none else none) else (some ((1 : Int32), μ)) else none
theorem mT_look {S : zS} {q : Nat} {w w0 : zW} {Post : Option Value → zW → Prop} {m0 : Nat} {μ μ2 : mS} {v : Int32} {g_look : Int32 → mS → Option (Int32 × mS)} {g_reckon : Int32 → mS → Option (Int64 × mS)} {g_giveUp : Int32 → mS → Option (Unit × mS)} {a1 : Int32} (hq : 3 ≤ q) (H_look : ∀ {x1 : Int32} {ν ν2 : mS} {y : Int32} {w : zW} {P : Option Value → zW → Prop}, g_look x1 ν = some (y, ν2) → mW m0 w0 ν w → (∀ w2, mW m0 w0 ν2 w2 → P (some (.int y)) w2) → zOk S q 84 0 (lv_args 0 [.ref m0, .int x1]) [] w P) (H_reckon : ∀ {x1 : Int32} {ν ν2 : mS} {y : Int64} {w : zW} {P : Option Value → zW → Prop}, g_reckon x1 ν = some (y, ν2) → mW m0 w0 ν w → (∀ w2, mW m0 w0 ν2 w2 → P (some (.long y)) w2) → zOk S q 85 0 (lv_args 0 [.ref m0, .int x1]) [] w P) (H_giveUp : ∀ {x1 : Int32} {ν ν2 : mS} {y : Unit} {w : zW} {P : Option Value → zW → Prop}, g_giveUp x1 ν = some (y, ν2) → mW m0 w0 ν w → (∀ w2, mW m0 w0 ν2 w2 → P none w2) → zOk S q 88 0 (lv_args 0 [.ref m0, .int x1]) [] w P) (hk : mF_look g_look g_reckon g_giveUp a1 μ = some (v, μ2)) (h : mW m0 w0 μ w) (k : ∀ w2, mW m0 w0 μ2 w2 → Post (some (.int v)) w2) : zOk S (q + 1) 84 0 (lv_args 0 [.ref m0, .int a1]) [] w Post := by
  unfold mF_look at hk
  refine zi_l rfl rfl rfl ?_
  refine zm_ga (f := 13) h rfl rfl (by decide) ?_
  refine zi_l rfl rfl rfl ?_
  by_cases q1 : zix a1 500
  case neg => rw [if_neg q1] at hk; cases hk
  rw [if_pos q1] at hk
  refine zm_lz (f := 13) h rfl (by decide) rfl q1 ?_
  refine zi_ifd rfl rfl rfl (tgt := 11) (by decide) (fun c2 => ?_) (fun c2 => ?_)
  · rw [if_pos c2] at hk
    refine zi_l rfl rfl rfl ?_
    refine zm_ga (f := 1) h rfl rfl (by decide) ?_
    refine zi_l rfl rfl rfl ?_
    refine zm_ga (f := 10) h rfl rfl (by decide) ?_
    refine zi_l rfl rfl rfl ?_
    by_cases q3 : zix a1 500
    case neg => rw [if_neg q3] at hk; cases hk
    rw [if_pos q3] at hk
    refine zm_ld (f := 10) h rfl (by decide) rfl q3 ?_
    by_cases q4 : zix (μ.1 10 (a1).toNatClampNeg) 200
    case neg => rw [if_neg q4] at hk; cases hk
    rw [if_pos q4] at hk
    refine zm_ld (f := 1) h rfl (by decide) rfl q4 ?_
    by_cases c5 : ((μ.1 1 ((μ.1 10 (a1).toNatClampNeg)).toNatClampNeg)).toInt < 10 ∨ 21 < ((μ.1 1 ((μ.1 10 (a1).toNatClampNeg)).toNatClampNeg)).toInt
    · rw [if_pos c5] at hk
      refine zi_sd rfl c5 (tgt := 257) (by decide) ?_
      refine zi_a (st' := .int 1 :: _) rfl rfl rfl ?_
      cases hk
      exact zi_rz rfl rfl (Or.inr rfl) (k w h)
    rw [if_neg c5] at hk
    by_cases e6 : (μ.1 1 ((μ.1 10 (a1).toNatClampNeg)).toNatClampNeg) = 10
    · rw [if_pos e6] at hk
      refine zi_si rfl c5 (off := 62) (by rw [e6]; rfl) (tgt := 84) (by decide) ?_
      refine zi_l rfl rfl rfl ?_
      refine zi_l rfl rfl rfl ?_
      refine zm_ga (f := 14) h rfl rfl (by decide) ?_
      refine zi_l rfl rfl rfl ?_
      by_cases q7 : zix a1 500
      case neg => rw [if_neg q7] at hk; cases hk
      rw [if_pos q7] at hk
      refine zm_ld (f := 14) h rfl (by decide) rfl q7 ?_
      refine zi_ifd rfl rfl rfl (tgt := 103) (by decide) (fun c8 => ?_) (fun c8 => ?_)
      · rw [if_pos c8] at hk
        refine zi_l rfl rfl rfl ?_
        refine zm_ga (f := 12) h rfl rfl (by decide) ?_
        refine zi_l rfl rfl rfl ?_
        by_cases q9 : zix a1 500
        case neg => rw [if_neg q9] at hk; cases hk
        rw [if_pos q9] at hk
        refine zm_ld (f := 12) h rfl (by decide) rfl q9 ?_
        exact mT_look_109 hq H_look H_reckon H_giveUp hk h k
      · rw [if_neg c8] at hk
        refine zi_l rfl rfl rfl ?_
        refine zm_ga (f := 11) h rfl rfl (by decide) ?_
        refine zi_l rfl rfl rfl ?_
        by_cases q10 : zix a1 500
        case neg => rw [if_neg q10] at hk; cases hk
        rw [if_pos q10] at hk
        refine zm_ld (f := 11) h rfl (by decide) rfl q10 ?_
        refine zi_go rfl rfl rfl (tgt := 109) (by decide) ?_
        exact mT_look_109 hq H_look H_reckon H_giveUp hk h k
    rw [if_neg e6] at hk
    by_cases e11 : (μ.1 1 ((μ.1 10 (a1).toNatClampNeg)).toNatClampNeg) = 11
    · rw [if_pos e11] at hk
      refine zi_si rfl c5 (off := 235) (by rw [e11]; rfl) (tgt := 257) (by decide) ?_
      refine zi_a (st' := .int 1 :: _) rfl rfl rfl ?_
      cases hk
      exact zi_rz rfl rfl (Or.inr rfl) (k w h)
    rw [if_neg e11] at hk
    by_cases e12 : (μ.1 1 ((μ.1 10 (a1).toNatClampNeg)).toNatClampNeg) = 12
    · rw [if_pos e12] at hk
      refine zi_si rfl c5 (off := 235) (by rw [e12]; rfl) (tgt := 257) (by decide) ?_
      refine zi_a (st' := .int 1 :: _) rfl rfl rfl ?_
      cases hk
      exact zi_rz rfl rfl (Or.inr rfl) (k w h)
    rw [if_neg e12] at hk
    by_cases e13 : (μ.1 1 ((μ.1 10 (a1).toNatClampNeg)).toNatClampNeg) = 13
    · rw [if_pos e13] at hk
      refine zi_si rfl c5 (off := 235) (by rw [e13]; rfl) (tgt := 257) (by decide) ?_
      refine zi_a (st' := .int 1 :: _) rfl rfl rfl ?_
      cases hk
      exact zi_rz rfl rfl (Or.inr rfl) (k w h)
    rw [if_neg e13] at hk
    by_cases e14 : (μ.1 1 ((μ.1 10 (a1).toNatClampNeg)).toNatClampNeg) = 14
    · rw [if_pos e14] at hk
      refine zi_si rfl c5 (off := 235) (by rw [e14]; rfl) (tgt := 257) (by decide) ?_
      refine zi_a (st' := .int 1 :: _) rfl rfl rfl ?_
      cases hk
      exact zi_rz rfl rfl (Or.inr rfl) (k w h)
    rw [if_neg e14] at hk
    by_cases e15 : (μ.1 1 ((μ.1 10 (a1).toNatClampNeg)).toNatClampNeg) = 15
    · rw [if_pos e15] at hk
      refine zi_si rfl c5 (off := 149) (by rw [e15]; rfl) (tgt := 171) (by decide) ?_
      refine zi_l rfl rfl rfl ?_
      refine zm_ga (f := 14) h rfl rfl (by decide) ?_
      refine zi_l rfl rfl rfl ?_
      by_cases q16 : zix a1 500
      case neg => rw [if_neg q16] at hk; cases hk
      rw [if_pos q16] at hk
      refine zm_ld (f := 14) h rfl (by decide) rfl q16 ?_
      refine zi_a (st' := .int 1 :: _) rfl rfl rfl ?_
      refine zi_a rfl rfl rfl ?_
      refine zi_ifd rfl rfl rfl (tgt := 195) (by decide) (fun c17 => ?_) (fun c17 => ?_)
      · rw [if_pos c17] at hk
        exact mT_look_195 hq H_look H_reckon H_giveUp hk h k
      · rw [if_neg c17] at hk
        refine zi_l rfl rfl rfl ?_
        refine zi_l rfl rfl rfl ?_
        refine zm_ga (f := 11) h rfl rfl (by decide) ?_
        refine zi_l rfl rfl rfl ?_
        by_cases q18 : zix a1 500
        case neg => rw [if_neg q18] at hk; cases hk
        rw [if_pos q18] at hk
        refine zm_ld (f := 11) h rfl (by decide) rfl q18 ?_
        cases c19 : g_look (μ.1 11 (a1).toNatClampNeg) μ with
        | none => rw [c19] at hk; cases hk
        | some q1 =>
          obtain ⟨v20, m21⟩ := q1
          rw [c19] at hk
          dsimp only at hk
          refine zm_c h rfl rfl rfl rfl rfl rfl (H_look c19 h (fun w h => ?_))
          refine zi_ifd rfl rfl rfl (tgt := 223) (by decide) (fun c22 => ?_) (fun c22 => ?_)
          · rw [if_pos c22] at hk
            refine zi_a (st' := .int 0 :: _) rfl rfl rfl ?_
            cases hk
            exact zi_rz rfl rfl (Or.inl rfl) (k w h)
          · rw [if_neg c22] at hk
            exact mT_look_195 hq H_look H_reckon H_giveUp hk h k
    rw [if_neg e15] at hk
    by_cases e23 : (μ.1 1 ((μ.1 10 (a1).toNatClampNeg)).toNatClampNeg) = 16
    · rw [if_pos e23] at hk
      refine zi_si rfl c5 (off := 91) (by rw [e23]; rfl) (tgt := 113) (by decide) ?_
      refine zi_l rfl rfl rfl ?_
      refine zm_ga (f := 14) h rfl rfl (by decide) ?_
      refine zi_l rfl rfl rfl ?_
      by_cases q24 : zix a1 500
      case neg => rw [if_neg q24] at hk; cases hk
      rw [if_pos q24] at hk
      refine zm_ld (f := 14) h rfl (by decide) rfl q24 ?_
      refine zi_a (st' := .int 2 :: _) rfl rfl rfl ?_
      refine zi_ifd rfl rfl rfl (tgt := 154) (by decide) (fun c25 => ?_) (fun c25 => ?_)
      · rw [if_pos c25] at hk
        exact mT_look_154 hq H_look H_reckon H_giveUp hk h k
      · rw [if_neg c25] at hk
        refine zi_l rfl rfl rfl ?_
        refine zi_l rfl rfl rfl ?_
        refine zm_ga (f := 14) h rfl rfl (by decide) ?_
        refine zi_l rfl rfl rfl ?_
        by_cases q26 : zix a1 500
        case neg => rw [if_neg q26] at hk; cases hk
        rw [if_pos q26] at hk
        refine zm_ld (f := 14) h rfl (by decide) rfl q26 ?_
        refine zi_ifd rfl rfl rfl (tgt := 142) (by decide) (fun c27 => ?_) (fun c27 => ?_)
        · rw [if_pos c27] at hk
          refine zi_l rfl rfl rfl ?_
          refine zm_ga (f := 12) h rfl rfl (by decide) ?_
          refine zi_l rfl rfl rfl ?_
          by_cases q28 : zix a1 500
          case neg => rw [if_neg q28] at hk; cases hk
          rw [if_pos q28] at hk
          refine zm_ld (f := 12) h rfl (by decide) rfl q28 ?_
          exact mT_look_148 hq H_look H_reckon H_giveUp hk h k
        · rw [if_neg c27] at hk
          refine zi_l rfl rfl rfl ?_
          refine zm_ga (f := 11) h rfl rfl (by decide) ?_
          refine zi_l rfl rfl rfl ?_
          by_cases q29 : zix a1 500
          case neg => rw [if_neg q29] at hk; cases hk
          rw [if_pos q29] at hk
          refine zm_ld (f := 11) h rfl (by decide) rfl q29 ?_
          refine zi_go rfl rfl rfl (tgt := 148) (by decide) ?_
          exact mT_look_148 hq H_look H_reckon H_giveUp hk h k
    rw [if_neg e23] at hk
    by_cases e30 : (μ.1 1 ((μ.1 10 (a1).toNatClampNeg)).toNatClampNeg) = 17
    · rw [if_pos e30] at hk
      refine zi_si rfl c5 (off := 138) (by rw [e30]; rfl) (tgt := 160) (by decide) ?_
      refine zi_l rfl rfl rfl ?_
      refine zi_l rfl rfl rfl ?_
      refine zm_ga (f := 11) h rfl rfl (by decide) ?_
      refine zi_l rfl rfl rfl ?_
      by_cases q31 : zix a1 500
      case neg => rw [if_neg q31] at hk; cases hk
      rw [if_pos q31] at hk
      refine zm_ld (f := 11) h rfl (by decide) rfl q31 ?_
      cases c32 : g_look (μ.1 11 (a1).toNatClampNeg) μ with
      | none => rw [c32] at hk; cases hk
      | some q1 =>
        obtain ⟨v33, m34⟩ := q1
        rw [c32] at hk
        dsimp only at hk
        refine zm_c h rfl rfl rfl rfl rfl rfl (H_look c32 h (fun w h => ?_))
        by_cases q35 : v33 = 0 ∨ v33 = 1
        case neg => rw [if_neg q35] at hk; cases hk
        rw [if_pos q35] at hk
        cases hk
        exact zi_rz rfl rfl q35 (k w h)
    rw [if_neg e30] at hk
    by_cases e36 : (μ.1 1 ((μ.1 10 (a1).toNatClampNeg)).toNatClampNeg) = 18
    · rw [if_pos e36] at hk
      refine zi_si rfl c5 (off := 232) (by rw [e36]; rfl) (tgt := 254) (by decide) ?_
      refine zi_go rfl rfl rfl (tgt := 259) (by decide) ?_
      refine zi_l rfl rfl rfl ?_
      refine zm_ga (f := 14) h rfl rfl (by decide) ?_
      refine zi_l rfl rfl rfl ?_
      by_cases q37 : zix a1 500
      case neg => rw [if_neg q37] at hk; cases hk
      rw [if_pos q37] at hk
      refine zm_ld (f := 14) h rfl (by decide) rfl q37 ?_
      refine zi_a (st' := .int 1 :: _) rfl rfl rfl ?_
      refine zi_ifd rfl rfl rfl (tgt := 280) (by decide) (fun c38 => ?_) (fun c38 => ?_)
      · rw [if_pos c38] at hk
        refine zi_l rfl rfl rfl ?_
        refine zi_l rfl rfl rfl ?_
        refine zm_ga (f := 2) h rfl rfl (by decide) ?_
        refine zi_l rfl rfl rfl ?_
        refine zm_ga (f := 10) h rfl rfl (by decide) ?_
        refine zi_l rfl rfl rfl ?_
        by_cases q39 : zix a1 500
        case neg => rw [if_neg q39] at hk; cases hk
        rw [if_pos q39] at hk
        refine zm_ld (f := 10) h rfl (by decide) rfl q39 ?_
        by_cases q40 : zix (μ.1 10 (a1).toNatClampNeg) 200
        case neg => rw [if_neg q40] at hk; cases hk
        rw [if_pos q40] at hk
        refine zm_ld (f := 2) h rfl (by decide) rfl q40 ?_
        cases c41 : g_reckon (μ.1 2 ((μ.1 10 (a1).toNatClampNeg)).toNatClampNeg) μ with
        | none => rw [c41] at hk; cases hk
        | some q1 =>
          obtain ⟨v42, m43⟩ := q1
          rw [c41] at hk
          dsimp only at hk
          refine zm_c h rfl rfl rfl rfl rfl rfl (H_reckon c41 h (fun w h => ?_))
          refine zi_l rfl rfl rfl ?_
          refine zi_l rfl rfl rfl ?_
          cases c44 : mF_isBad  m43 with
          | none => rw [c44] at hk; cases hk
          | some q1 =>
            obtain ⟨v45, m46⟩ := q1
            rw [c44] at hk
            dsimp only at hk
            refine zm_c h rfl rfl rfl rfl rfl rfl ((mT_isBad (q := 1) (Nat.le_refl _) c44 h (fun w h => ?_)).deep (by omega))
            refine zi_ifd rfl rfl rfl (tgt := 305) (by decide) (fun c47 => ?_) (fun c47 => ?_)
            · rw [if_pos c47] at hk
              refine zi_l rfl rfl rfl ?_
              refine zi_a (st' := .long 0 :: _) rfl rfl rfl ?_
              refine zi_a rfl rfl rfl ?_
              refine zi_ifd rfl rfl rfl (tgt := 322) (by decide) (fun c48 => ?_) (fun c48 => ?_)
              · rw [if_pos c48] at hk
                refine zi_l rfl rfl rfl ?_
                refine zi_l rfl rfl rfl ?_
                refine zm_ga (f := 10) h rfl rfl (by decide) ?_
                refine zi_l rfl rfl rfl ?_
                by_cases q49 : zix a1 500
                case neg => rw [if_neg q49] at hk; cases hk
                rw [if_pos q49] at hk
                refine zm_ld (f := 10) h rfl (by decide) rfl q49 ?_
                refine zi_a (st' := .int 3 :: _) rfl rfl rfl ?_
                cases c50 : mF_note (m46.1 10 (a1).toNatClampNeg) (3 : Int32) m46 with
                | none => rw [c50] at hk; cases hk
                | some q1 =>
                  obtain ⟨v51, m52⟩ := q1
                  rw [c50] at hk
                  dsimp only at hk
                  refine zm_c h rfl rfl rfl rfl rfl rfl ((mT_note (q := 0) (Nat.le_refl _) c50 h (fun w h => ?_)).deep (by omega))
                  refine zi_l rfl rfl rfl ?_
                  refine zi_l rfl rfl rfl ?_
                  refine zm_ga (f := 11) h rfl rfl (by decide) ?_
                  refine zi_l rfl rfl rfl ?_
                  by_cases q53 : zix a1 500
                  case neg => rw [if_neg q53] at hk; cases hk
                  rw [if_pos q53] at hk
                  refine zm_ld (f := 11) h rfl (by decide) rfl q53 ?_
                  cases c54 : g_giveUp (m52.1 11 (a1).toNatClampNeg) m52 with
                  | none => rw [c54] at hk; cases hk
                  | some q1 =>
                    obtain ⟨v55, m56⟩ := q1
                    rw [c54] at hk
                    dsimp only at hk
                    refine zm_c h rfl rfl rfl rfl rfl rfl (H_giveUp c54 h (fun w h => ?_))
                    refine zi_l rfl rfl rfl ?_
                    refine zm_ga (f := 14) h rfl rfl (by decide) ?_
                    refine zi_l rfl rfl rfl ?_
                    refine zi_a (st' := .int 1 :: _) rfl rfl rfl ?_
                    by_cases q57 : zix a1 500
                    case neg => rw [if_neg q57] at hk; cases hk
                    rw [if_pos q57] at hk
                    refine zm_st (f := 14) h rfl (by decide) rfl q57 (fun w h => ?_)
                    generalize mu1 m56 14 (a1).toNatClampNeg (1 : Int32) = m58 at h hk
                    rw [mPut_eq] at hk
                    refine zi_l rfl rfl rfl ?_
                    refine zm_ga (f := 13) h rfl rfl (by decide) ?_
                    refine zi_l rfl rfl rfl ?_
                    refine zm_ga (f := 12) h rfl rfl (by decide) ?_
                    refine zi_l rfl rfl rfl ?_
                    by_cases q59 : zix a1 500
                    case neg => rw [if_neg q59] at hk; cases hk
                    rw [if_pos q59] at hk
                    refine zm_ld (f := 12) h rfl (by decide) rfl q59 ?_
                    refine zi_a (st' := .int 0 :: _) rfl rfl rfl ?_
                    by_cases q60 : zix (m58.1 12 (a1).toNatClampNeg) 500
                    case neg => rw [if_neg q60] at hk; cases hk
                    rw [if_pos q60] at hk
                    refine zm_sz (f := 13) h rfl (by decide) rfl rfl q60 (fun w h => ?_)
                    generalize mu1 m58 13 ((m58.1 12 (a1).toNatClampNeg)).toNatClampNeg (0 : Int32) = m61 at h hk
                    rw [mPut_eq] at hk
                    refine zi_a (st' := .int 1 :: _) rfl rfl rfl ?_
                    cases hk
                    exact zi_rz rfl rfl (Or.inr rfl) (k w h)
              · rw [if_neg c48] at hk
                refine zi_l rfl rfl rfl ?_
                refine zi_l rfl rfl rfl ?_
                refine zm_ga (f := 11) h rfl rfl (by decide) ?_
                refine zi_l rfl rfl rfl ?_
                by_cases q62 : zix a1 500
                case neg => rw [if_neg q62] at hk; cases hk
                rw [if_pos q62] at hk
                refine zm_ld (f := 11) h rfl (by decide) rfl q62 ?_
                cases c63 : g_look (m46.1 11 (a1).toNatClampNeg) m46 with
                | none => rw [c63] at hk; cases hk
                | some q1 =>
                  obtain ⟨v64, m65⟩ := q1
                  rw [c63] at hk
                  dsimp only at hk
                  refine zm_c h rfl rfl rfl rfl rfl rfl (H_look c63 h (fun w h => ?_))
                  by_cases q66 : v64 = 0 ∨ v64 = 1
                  case neg => rw [if_neg q66] at hk; cases hk
                  rw [if_pos q66] at hk
                  cases hk
                  exact zi_rz rfl rfl q66 (k w h)
            · rw [if_neg c47] at hk
              refine zi_a (st' := .int 0 :: _) rfl rfl rfl ?_
              cases hk
              exact zi_rz rfl rfl (Or.inl rfl) (k w h)
      · rw [if_neg c38] at hk
        refine zi_l rfl rfl rfl ?_
        refine zi_l rfl rfl rfl ?_
        refine zm_ga (f := 12) h rfl rfl (by decide) ?_
        refine zi_l rfl rfl rfl ?_
        by_cases q67 : zix a1 500
        case neg => rw [if_neg q67] at hk; cases hk
        rw [if_pos q67] at hk
        refine zm_ld (f := 12) h rfl (by decide) rfl q67 ?_
        cases c68 : g_look (μ.1 12 (a1).toNatClampNeg) μ with
        | none => rw [c68] at hk; cases hk
        | some q1 =>
          obtain ⟨v69, m70⟩ := q1
          rw [c68] at hk
          dsimp only at hk
          refine zm_c h rfl rfl rfl rfl rfl rfl (H_look c68 h (fun w h => ?_))
          by_cases q71 : v69 = 0 ∨ v69 = 1
          case neg => rw [if_neg q71] at hk; cases hk
          rw [if_pos q71] at hk
          cases hk
          exact zi_rz rfl rfl q71 (k w h)
    rw [if_neg e36] at hk
    by_cases e72 : (μ.1 1 ((μ.1 10 (a1).toNatClampNeg)).toNatClampNeg) = 19
    · rw [if_pos e72] at hk
      refine zi_si rfl c5 (off := 235) (by rw [e72]; rfl) (tgt := 257) (by decide) ?_
      refine zi_a (st' := .int 1 :: _) rfl rfl rfl ?_
      cases hk
      exact zi_rz rfl rfl (Or.inr rfl) (k w h)
    rw [if_neg e72] at hk
    by_cases e73 : (μ.1 1 ((μ.1 10 (a1).toNatClampNeg)).toNatClampNeg) = 20
    · rw [if_pos e73] at hk
      refine zi_si rfl c5 (off := 235) (by rw [e73]; rfl) (tgt := 257) (by decide) ?_
      refine zi_a (st' := .int 1 :: _) rfl rfl rfl ?_
      cases hk
      exact zi_rz rfl rfl (Or.inr rfl) (k w h)
    rw [if_neg e73] at hk
    by_cases e74 : (μ.1 1 ((μ.1 10 (a1).toNatClampNeg)).toNatClampNeg) = 21
    · rw [if_pos e74] at hk
      refine zi_si rfl c5 (off := 203) (by rw [e74]; rfl) (tgt := 225) (by decide) ?_
      refine zi_l rfl rfl rfl ?_
      refine zm_ga (f := 14) h rfl rfl (by decide) ?_
      refine zi_l rfl rfl rfl ?_
      by_cases q75 : zix a1 500
      case neg => rw [if_neg q75] at hk; cases hk
      rw [if_pos q75] at hk
      refine zm_ld (f := 14) h rfl (by decide) rfl q75 ?_
      refine zi_a (st' := .int 1 :: _) rfl rfl rfl ?_
      refine zi_ifd rfl rfl rfl (tgt := 248) (by decide) (fun c76 => ?_) (fun c76 => ?_)
      · rw [if_pos c76] at hk
        exact mT_look_248 hq H_look H_reckon H_giveUp hk h k
      · rw [if_neg c76] at hk
        refine zi_l rfl rfl rfl ?_
        refine zi_l rfl rfl rfl ?_
        refine zm_ga (f := 11) h rfl rfl (by decide) ?_
        refine zi_l rfl rfl rfl ?_
        by_cases q77 : zix a1 500
        case neg => rw [if_neg q77] at hk; cases hk
        rw [if_pos q77] at hk
        refine zm_ld (f := 11) h rfl (by decide) rfl q77 ?_
        cases c78 : g_look (μ.1 11 (a1).toNatClampNeg) μ with
        | none => rw [c78] at hk; cases hk
        | some q1 =>
          obtain ⟨v79, m80⟩ := q1
          rw [c78] at hk
          dsimp only at hk
          refine zm_c h rfl rfl rfl rfl rfl rfl (H_look c78 h (fun w h => ?_))
          refine zi_ifd rfl rfl rfl (tgt := 252) (by decide) (fun c81 => ?_) (fun c81 => ?_)
          · rw [if_pos c81] at hk
            refine zi_a (st' := .int 0 :: _) rfl rfl rfl ?_
            cases hk
            exact zi_rz rfl rfl (Or.inl rfl) (k w h)
          · rw [if_neg c81] at hk
            exact mT_look_248 hq H_look H_reckon H_giveUp hk h k
    rw [if_neg e74] at hk
    cases hk
  · rw [if_neg c2] at hk
    refine zi_a (st' := .int 1 :: _) rfl rfl rfl ?_
    cases hk
    exact zi_rz rfl rfl (Or.inr rfl) (k w h)
def mF_tick_77 (g_look : Int32 → mS → Option (Int32 × mS)) (g_go : Int32 → mS → Option (Int32 × mS)) (k_22 : Int32 → Int32 → mS → Option (Int32 × mS)) (l1 : Int32) (l2 : Int32) (l3 : Int32) (s1 : Int32) (μ : mS) : Option (Int32 × mS) :=
  mPut (mu1 μ 25 0 s1) fun m1 => mPut (mu2 m1 26 0 ((m1.2 26 0) + (1 : Int64))) fun m2 => k_22 l1 (l2 + Int32.ofInt 1) m2
theorem mT_tick_77 {S : zS} {q : Nat} {w w0 : zW} {Post : Option Value → zW → Prop} {m0 : Nat} {μ μ2 : mS} {v : Int32} {g_look : Int32 → mS → Option (Int32 × mS)} {g_go : Int32 → mS → Option (Int32 × mS)} {k_22 : Int32 → Int32 → mS → Option (Int32 × mS)} {l1 : Int32} {l2 : Int32} {l3 : Int32} {s1 : Int32} (hq : 0 ≤ q) (H_look : ∀ {x1 : Int32} {ν ν2 : mS} {y : Int32} {w : zW} {P : Option Value → zW → Prop}, g_look x1 ν = some (y, ν2) → mW m0 w0 ν w → (∀ w2, mW m0 w0 ν2 w2 → P (some (.int y)) w2) → zOk S q 84 0 (lv_args 0 [.ref m0, .int x1]) [] w P) (H_go : ∀ {x1 : Int32} {ν ν2 : mS} {y : Int32} {w : zW} {P : Option Value → zW → Prop}, g_go x1 ν = some (y, ν2) → mW m0 w0 ν w → (∀ w2, mW m0 w0 ν2 w2 → P (some (.int y)) w2) → zOk S q 89 0 (lv_args 0 [.ref m0, .int x1]) [] w P) (H_22 : ∀ (l1 : Int32) (l2 : Int32) (ν : mS) (w : zW), k_22 l1 l2 ν = some (v, μ2) → mW m0 w0 ν w → zOk S (q + 1) 83 22 [(0, .ref m0), (1, .int l1), (2, .int l2)] [] w Post) (hk : mF_tick_77 g_look g_go k_22 l1 l2 l3 s1 μ = some (v, μ2)) (h : mW m0 w0 μ w) (k : ∀ w2, mW m0 w0 μ2 w2 → Post (some (.int v)) w2) : zOk S (q + 1) 83 77 [(0, .ref m0), (1, .int l1), (2, .int l2), (3, .int l3)] [.int s1, .ref m0] w Post := by
  unfold mF_tick_77 at hk
  refine zm_p h rfl rfl rfl rfl ⟨rfl, rfl, Or.inl rfl⟩ (fun w h => ?_)
  generalize mu1 μ 25 0 s1 = m1 at h hk
  rw [mPut_eq] at hk
  refine zi_l rfl rfl rfl ?_
  refine zi_a rfl rfl rfl ?_
  refine zm_gl h rfl rfl rfl rfl ?_
  refine zi_a (st' := .long 1 :: _) rfl rfl rfl ?_
  refine zi_a rfl rfl rfl ?_
  refine zm_pl h rfl rfl rfl rfl ⟨rfl, rfl, Or.inl rfl⟩ (fun w h => ?_)
  generalize mu2 m1 26 0 ((m1.2 26 0) + (1 : Int64)) = m2 at h hk
  rw [mPut_eq] at hk
  refine zi_l rfl rfl rfl ?_
  refine zi_go rfl rfl rfl (tgt := 22) (by decide) ?_
  refine zk_sub [0, 1, 2] rfl rfl ?_
  exact H_22 _ _ _ _ hk h
def mF_tick_56 (g_look : Int32 → mS → Option (Int32 × mS)) (g_go : Int32 → mS → Option (Int32 × mS)) (k_22 : Int32 → Int32 → mS → Option (Int32 × mS)) (l1 : Int32) (l2 : Int32) (s0 : Int32) (μ : mS) : Option (Int32 × mS) :=
  if ¬ s0 = (1 : Int32) then (if ¬ s0 = (2 : Int32) then (mF_tick_77 g_look g_go k_22 l1 l2 s0 (0 : Int32) μ) else (mF_tick_77 g_look g_go k_22 l1 l2 s0 (2 : Int32) μ)) else (mF_tick_77 g_look g_go k_22 l1 l2 s0 (1 : Int32) μ)
theorem mT_tick_56 {S : zS} {q : Nat} {w w0 : zW} {Post : Option Value → zW → Prop} {m0 : Nat} {μ μ2 : mS} {v : Int32} {g_look : Int32 → mS → Option (Int32 × mS)} {g_go : Int32 → mS → Option (Int32 × mS)} {k_22 : Int32 → Int32 → mS → Option (Int32 × mS)} {l1 : Int32} {l2 : Int32} {s0 : Int32} (hq : 0 ≤ q) (H_look : ∀ {x1 : Int32} {ν ν2 : mS} {y : Int32} {w : zW} {P : Option Value → zW → Prop}, g_look x1 ν = some (y, ν2) → mW m0 w0 ν w → (∀ w2, mW m0 w0 ν2 w2 → P (some (.int y)) w2) → zOk S q 84 0 (lv_args 0 [.ref m0, .int x1]) [] w P) (H_go : ∀ {x1 : Int32} {ν ν2 : mS} {y : Int32} {w : zW} {P : Option Value → zW → Prop}, g_go x1 ν = some (y, ν2) → mW m0 w0 ν w → (∀ w2, mW m0 w0 ν2 w2 → P (some (.int y)) w2) → zOk S q 89 0 (lv_args 0 [.ref m0, .int x1]) [] w P) (H_22 : ∀ (l1 : Int32) (l2 : Int32) (ν : mS) (w : zW), k_22 l1 l2 ν = some (v, μ2) → mW m0 w0 ν w → zOk S (q + 1) 83 22 [(0, .ref m0), (1, .int l1), (2, .int l2)] [] w Post) (hk : mF_tick_56 g_look g_go k_22 l1 l2 s0 μ = some (v, μ2)) (h : mW m0 w0 μ w) (k : ∀ w2, mW m0 w0 μ2 w2 → Post (some (.int v)) w2) : zOk S (q + 1) 83 56 [(0, .ref m0), (1, .int l1), (2, .int l2)] [.int s0] w Post := by
  unfold mF_tick_56 at hk
  refine zi_l rfl rfl rfl ?_
  refine zi_l rfl rfl rfl ?_
  refine zi_l rfl rfl rfl ?_
  refine zi_a (st' := .int 1 :: _) rfl rfl rfl ?_
  refine zi_ifd rfl rfl rfl (tgt := 67) (by decide) (fun c1 => ?_) (fun c1 => ?_)
  · rw [if_pos c1] at hk
    refine zi_l rfl rfl rfl ?_
    refine zi_a (st' := .int 2 :: _) rfl rfl rfl ?_
    refine zi_ifd rfl rfl rfl (tgt := 76) (by decide) (fun c2 => ?_) (fun c2 => ?_)
    · rw [if_pos c2] at hk
      refine zi_a (st' := .int 0 :: _) rfl rfl rfl ?_
      exact mT_tick_77 hq H_look H_go H_22 hk h k
    · rw [if_neg c2] at hk
      refine zi_a (st' := .int 2 :: _) rfl rfl rfl ?_
      refine zi_go rfl rfl rfl (tgt := 77) (by decide) ?_
      exact mT_tick_77 hq H_look H_go H_22 hk h k
  · rw [if_neg c1] at hk
    refine zi_a (st' := .int 1 :: _) rfl rfl rfl ?_
    refine zi_go rfl rfl rfl (tgt := 77) (by decide) ?_
    exact mT_tick_77 hq H_look H_go H_22 hk h k
def mF_tick_96 (g_look : Int32 → mS → Option (Int32 × mS)) (g_go : Int32 → mS → Option (Int32 × mS)) (l1 : Int32) (l2 : Int32) (μ : mS) : Option (Int32 × mS) :=
  some ((μ.1 25 0), μ)
theorem mT_tick_96 {S : zS} {q : Nat} {w w0 : zW} {Post : Option Value → zW → Prop} {m0 : Nat} {μ μ2 : mS} {v : Int32} {g_look : Int32 → mS → Option (Int32 × mS)} {g_go : Int32 → mS → Option (Int32 × mS)} {l1 : Int32} {l2 : Int32} (hq : 0 ≤ q) (H_look : ∀ {x1 : Int32} {ν ν2 : mS} {y : Int32} {w : zW} {P : Option Value → zW → Prop}, g_look x1 ν = some (y, ν2) → mW m0 w0 ν w → (∀ w2, mW m0 w0 ν2 w2 → P (some (.int y)) w2) → zOk S q 84 0 (lv_args 0 [.ref m0, .int x1]) [] w P) (H_go : ∀ {x1 : Int32} {ν ν2 : mS} {y : Int32} {w : zW} {P : Option Value → zW → Prop}, g_go x1 ν = some (y, ν2) → mW m0 w0 ν w → (∀ w2, mW m0 w0 ν2 w2 → P (some (.int y)) w2) → zOk S q 89 0 (lv_args 0 [.ref m0, .int x1]) [] w P) (hk : mF_tick_96 g_look g_go l1 l2 μ = some (v, μ2)) (h : mW m0 w0 μ w) (k : ∀ w2, mW m0 w0 μ2 w2 → Post (some (.int v)) w2) : zOk S (q + 1) 83 96 [(0, .ref m0), (1, .int l1), (2, .int l2)] [] w Post := by
  unfold mF_tick_96 at hk
  refine zi_l rfl rfl rfl ?_
  refine zm_g h rfl rfl rfl rfl ?_
  cases hk
  exact zi_ri rfl rfl (k w h)
def mF_tick_22b (g_look : Int32 → mS → Option (Int32 × mS)) (g_go : Int32 → mS → Option (Int32 × mS)) (k_22 : Int32 → Int32 → mS → Option (Int32 × mS)) (l1 : Int32) (l2 : Int32) (μ : mS) : Option (Int32 × mS) :=
  if l1 ≤ l2 then (mF_tick_96 g_look g_go l1 l2 μ) else (if ¬ (μ.1 25 0) = 0 then (mF_tick_96 g_look g_go l1 l2 μ) else (mPut (mu1 μ 27 0 (0 : Int32)) fun m3 => match g_look (0 : Int32) m3 with | none => none | some (v5, m6) => if v5 = 0 then (mF_tick_56 g_look g_go k_22 l1 l2 (2 : Int32) m6) else (match g_go (0 : Int32) m6 with | none => none | some (v9, m10) => mF_tick_56 g_look g_go k_22 l1 l2 v9 m10)))
theorem mT_tick_22b {S : zS} {q : Nat} {w w0 : zW} {Post : Option Value → zW → Prop} {m0 : Nat} {μ μ2 : mS} {v : Int32} {g_look : Int32 → mS → Option (Int32 × mS)} {g_go : Int32 → mS → Option (Int32 × mS)} {k_22 : Int32 → Int32 → mS → Option (Int32 × mS)} {l1 : Int32} {l2 : Int32} (hq : 0 ≤ q) (H_look : ∀ {x1 : Int32} {ν ν2 : mS} {y : Int32} {w : zW} {P : Option Value → zW → Prop}, g_look x1 ν = some (y, ν2) → mW m0 w0 ν w → (∀ w2, mW m0 w0 ν2 w2 → P (some (.int y)) w2) → zOk S q 84 0 (lv_args 0 [.ref m0, .int x1]) [] w P) (H_go : ∀ {x1 : Int32} {ν ν2 : mS} {y : Int32} {w : zW} {P : Option Value → zW → Prop}, g_go x1 ν = some (y, ν2) → mW m0 w0 ν w → (∀ w2, mW m0 w0 ν2 w2 → P (some (.int y)) w2) → zOk S q 89 0 (lv_args 0 [.ref m0, .int x1]) [] w P) (H_22 : ∀ (l1 : Int32) (l2 : Int32) (ν : mS) (w : zW), k_22 l1 l2 ν = some (v, μ2) → mW m0 w0 ν w → zOk S (q + 1) 83 22 [(0, .ref m0), (1, .int l1), (2, .int l2)] [] w Post) (hk : mF_tick_22b g_look g_go k_22 l1 l2 μ = some (v, μ2)) (h : mW m0 w0 μ w) (k : ∀ w2, mW m0 w0 μ2 w2 → Post (some (.int v)) w2) : zOk S (q + 1) 83 22 [(0, .ref m0), (1, .int l1), (2, .int l2)] [] w Post := by
  unfold mF_tick_22b at hk
  refine zi_l rfl rfl rfl ?_
  refine zi_l rfl rfl rfl ?_
  refine zi_ifd rfl rfl rfl (tgt := 96) (by decide) (fun c1 => ?_) (fun c1 => ?_)
  · rw [if_pos c1] at hk
    exact mT_tick_96 hq H_look H_go hk h k
  · rw [if_neg c1] at hk
    refine zi_l rfl rfl rfl ?_
    refine zm_g h rfl rfl rfl rfl ?_
    refine zi_ifd rfl rfl rfl (tgt := 96) (by decide) (fun c2 => ?_) (fun c2 => ?_)
    · rw [if_pos c2] at hk
      exact mT_tick_96 hq H_look H_go hk h k
    · rw [if_neg c2] at hk
      refine zi_l rfl rfl rfl ?_
      refine zi_a (st' := .int 0 :: _) rfl rfl rfl ?_
      refine zm_p h rfl rfl rfl rfl ⟨rfl, rfl, Or.inl rfl⟩ (fun w h => ?_)
      generalize mu1 μ 27 0 (0 : Int32) = m3 at h hk
      rw [mPut_eq] at hk
      refine zi_l rfl rfl rfl ?_
      refine zi_a (st' := .int 0 :: _) rfl rfl rfl ?_
      cases c4 : g_look (0 : Int32) m3 with
      | none => rw [c4] at hk; cases hk
      | some q1 =>
        obtain ⟨v5, m6⟩ := q1
        rw [c4] at hk
        dsimp only at hk
        refine zm_c h rfl rfl rfl rfl rfl rfl (H_look c4 h (fun w h => ?_))
        refine zi_ifd rfl rfl rfl (tgt := 55) (by decide) (fun c7 => ?_) (fun c7 => ?_)
        · rw [if_pos c7] at hk
          refine zi_a (st' := .int 2 :: _) rfl rfl rfl ?_
          exact mT_tick_56 hq H_look H_go H_22 hk h k
        · rw [if_neg c7] at hk
          refine zi_l rfl rfl rfl ?_
          refine zi_a (st' := .int 0 :: _) rfl rfl rfl ?_
          cases c8 : g_go (0 : Int32) m6 with
          | none => rw [c8] at hk; cases hk
          | some q1 =>
            obtain ⟨v9, m10⟩ := q1
            rw [c8] at hk
            dsimp only at hk
            refine zm_c h rfl rfl rfl rfl rfl rfl (H_go c8 h (fun w h => ?_))
            refine zi_go rfl rfl rfl (tgt := 56) (by decide) ?_
            exact mT_tick_56 hq H_look H_go H_22 hk h k
def mF_tick_22 (g_look : Int32 → mS → Option (Int32 × mS)) (g_go : Int32 → mS → Option (Int32 × mS)) : Nat → Int32 → Int32 → mS → Option (Int32 × mS)
  | 0 => fun _ _ _ => none
  | n + 1 => fun l1 l2 μ => mF_tick_22b g_look g_go (mF_tick_22 g_look g_go n) l1 l2 μ
theorem mT_tick_22 {S : zS} {q : Nat} {w0 : zW} {Post : Option Value → zW → Prop} {m0 : Nat} {μ2 : mS} {v : Int32} {g_look : Int32 → mS → Option (Int32 × mS)} {g_go : Int32 → mS → Option (Int32 × mS)} (hq : 0 ≤ q) (H_look : ∀ {x1 : Int32} {ν ν2 : mS} {y : Int32} {w : zW} {P : Option Value → zW → Prop}, g_look x1 ν = some (y, ν2) → mW m0 w0 ν w → (∀ w2, mW m0 w0 ν2 w2 → P (some (.int y)) w2) → zOk S q 84 0 (lv_args 0 [.ref m0, .int x1]) [] w P) (H_go : ∀ {x1 : Int32} {ν ν2 : mS} {y : Int32} {w : zW} {P : Option Value → zW → Prop}, g_go x1 ν = some (y, ν2) → mW m0 w0 ν w → (∀ w2, mW m0 w0 ν2 w2 → P (some (.int y)) w2) → zOk S q 89 0 (lv_args 0 [.ref m0, .int x1]) [] w P) (k : ∀ w2, mW m0 w0 μ2 w2 → Post (some (.int v)) w2) : ∀ (n : Nat) (l1 : Int32) (l2 : Int32) (μ : mS) (w : zW), mF_tick_22 g_look g_go n l1 l2 μ = some (v, μ2) → mW m0 w0 μ w → zOk S (q + 1) 83 22 [(0, .ref m0), (1, .int l1), (2, .int l2)] [] w Post := by
  intro n
  induction n with
  | zero => intro l1 l2 μ w hk; cases hk
  | succ n ih => intro l1 l2 μ w hk h; exact mT_tick_22b hq H_look H_go ih hk h k
def mF_tick (g_look : Int32 → mS → Option (Int32 × mS)) (g_go : Int32 → mS → Option (Int32 × mS)) (a1 : Int32) (μ : mS) : Option (Int32 × mS) :=
  if (μ.1 24 0) = 0 then (some ((-1 : Int32), μ)) else (if a1 < 0 then (some ((-1 : Int32), μ)) else (if a1 ≤ (10000 : Int32) then (mF_tick_22 g_look g_go 10010 a1 (0 : Int32) μ) else (some ((-1 : Int32), μ))))
theorem mT_tick {S : zS} {q : Nat} {w w0 : zW} {Post : Option Value → zW → Prop} {m0 : Nat} {μ μ2 : mS} {v : Int32} {g_look : Int32 → mS → Option (Int32 × mS)} {g_go : Int32 → mS → Option (Int32 × mS)} {a1 : Int32} (hq : 0 ≤ q) (H_look : ∀ {x1 : Int32} {ν ν2 : mS} {y : Int32} {w : zW} {P : Option Value → zW → Prop}, g_look x1 ν = some (y, ν2) → mW m0 w0 ν w → (∀ w2, mW m0 w0 ν2 w2 → P (some (.int y)) w2) → zOk S q 84 0 (lv_args 0 [.ref m0, .int x1]) [] w P) (H_go : ∀ {x1 : Int32} {ν ν2 : mS} {y : Int32} {w : zW} {P : Option Value → zW → Prop}, g_go x1 ν = some (y, ν2) → mW m0 w0 ν w → (∀ w2, mW m0 w0 ν2 w2 → P (some (.int y)) w2) → zOk S q 89 0 (lv_args 0 [.ref m0, .int x1]) [] w P) (hk : mF_tick g_look g_go a1 μ = some (v, μ2)) (h : mW m0 w0 μ w) (k : ∀ w2, mW m0 w0 μ2 w2 → Post (some (.int v)) w2) : zOk S (q + 1) 83 0 (lv_args 0 [.ref m0, .int a1]) [] w Post := by
  unfold mF_tick at hk
  refine zi_l rfl rfl rfl ?_
  refine zm_g h rfl rfl rfl rfl ?_
  refine zi_ifd rfl rfl rfl (tgt := 18) (by decide) (fun c1 => ?_) (fun c1 => ?_)
  · rw [if_pos c1] at hk
    refine zi_a (st' := .int (-1) :: _) rfl rfl rfl ?_
    cases hk
    exact zi_ri rfl rfl (k w h)
  · rw [if_neg c1] at hk
    refine zi_l rfl rfl rfl ?_
    refine zi_ifd rfl rfl rfl (tgt := 18) (by decide) (fun c2 => ?_) (fun c2 => ?_)
    · rw [if_pos c2] at hk
      refine zi_a (st' := .int (-1) :: _) rfl rfl rfl ?_
      cases hk
      exact zi_ri rfl rfl (k w h)
    · rw [if_neg c2] at hk
      refine zi_l rfl rfl rfl ?_
      refine zi_a (st' := .int 10000 :: _) rfl rfl rfl ?_
      refine zi_ifd rfl rfl rfl (tgt := 20) (by decide) (fun c3 => ?_) (fun c3 => ?_)
      · rw [if_pos c3] at hk
        refine zi_a (st' := .int 0 :: _) rfl rfl rfl ?_
        refine zi_l rfl rfl rfl ?_
        exact mT_tick_22 hq H_look H_go k 10010 _ _ _ _ hk h
      · rw [if_neg c3] at hk
        refine zi_a (st' := .int (-1) :: _) rfl rfl rfl ?_
        cases hk
        exact zi_ri rfl rfl (k w h)
def mF_still_73 (g_still : Int32 → Int32 → mS → Option (Int32 × mS)) (l1 : Int32) (l2 : Int32) (l3 : Int32) (l4 : Int32) (μ : mS) : Option (Int32 × mS) :=
  some (l4, μ)
theorem mT_still_73 {S : zS} {q : Nat} {w w0 : zW} {Post : Option Value → zW → Prop} {m0 : Nat} {μ μ2 : mS} {v : Int32} {g_still : Int32 → Int32 → mS → Option (Int32 × mS)} {l1 : Int32} {l2 : Int32} {l3 : Int32} {l4 : Int32} (hq : 0 ≤ q) (H_still : ∀ {x1 x2 : Int32} {ν ν2 : mS} {y : Int32} {w : zW} {P : Option Value → zW → Prop}, g_still x1 x2 ν = some (y, ν2) → mW m0 w0 ν w → (∀ w2, mW m0 w0 ν2 w2 → P (some (.int y)) w2) → zOk S q 101 0 (lv_args 0 [.ref m0, .int x1, .int x2]) [] w P) (hk : mF_still_73 g_still l1 l2 l3 l4 μ = some (v, μ2)) (h : mW m0 w0 μ w) (k : ∀ w2, mW m0 w0 μ2 w2 → Post (some (.int v)) w2) : zOk S (q + 1) 101 73 [(0, .ref m0), (1, .int l1), (2, .int l2), (3, .int l3), (4, .int l4)] [] w Post := by
  unfold mF_still_73 at hk
  refine zi_l rfl rfl rfl ?_
  refine zi_go rfl rfl rfl (tgt := 89) (by decide) ?_
  cases hk
  exact zi_ri rfl rfl (k w h)
def mF_still_55 (g_still : Int32 → Int32 → mS → Option (Int32 × mS)) (l1 : Int32) (l2 : Int32) (l3 : Int32) (s0 : Int32) (μ : mS) : Option (Int32 × mS) :=
  if 0 ≤ s0 then (mF_still_73 g_still l1 l2 l3 s0 μ) else (if zix l1 500 then if ((μ.1 14 (l1).toNatClampNeg) &&& (2 : Int32)) = 0 then (if zix l1 500 then match g_still (μ.1 12 (l1).toNatClampNeg) l2 μ with | none => none | some (v6, m7) => some (v6, m7) else none) else (mF_still_73 g_still l1 l2 l3 s0 μ) else none)
theorem mT_still_55 {S : zS} {q : Nat} {w w0 : zW} {Post : Option Value → zW → Prop} {m0 : Nat} {μ μ2 : mS} {v : Int32} {g_still : Int32 → Int32 → mS → Option (Int32 × mS)} {l1 : Int32} {l2 : Int32} {l3 : Int32} {s0 : Int32} (hq : 0 ≤ q) (H_still : ∀ {x1 x2 : Int32} {ν ν2 : mS} {y : Int32} {w : zW} {P : Option Value → zW → Prop}, g_still x1 x2 ν = some (y, ν2) → mW m0 w0 ν w → (∀ w2, mW m0 w0 ν2 w2 → P (some (.int y)) w2) → zOk S q 101 0 (lv_args 0 [.ref m0, .int x1, .int x2]) [] w P) (hk : mF_still_55 g_still l1 l2 l3 s0 μ = some (v, μ2)) (h : mW m0 w0 μ w) (k : ∀ w2, mW m0 w0 μ2 w2 → Post (some (.int v)) w2) : zOk S (q + 1) 101 55 [(0, .ref m0), (1, .int l1), (2, .int l2), (3, .int l3)] [.int s0] w Post := by
  unfold mF_still_55 at hk
  refine zi_l rfl rfl rfl ?_
  refine zi_l rfl rfl rfl ?_
  refine zi_ifd rfl rfl rfl (tgt := 73) (by decide) (fun c1 => ?_) (fun c1 => ?_)
  · rw [if_pos c1] at hk
    exact mT_still_73 hq H_still hk h k
  · rw [if_neg c1] at hk
    refine zi_l rfl rfl rfl ?_
    refine zm_ga (f := 14) h rfl rfl (by decide) ?_
    refine zi_l rfl rfl rfl ?_
    by_cases q2 : zix l1 500
    case neg => rw [if_neg q2] at hk; cases hk
    rw [if_pos q2] at hk
    refine zm_ld (f := 14) h rfl (by decide) rfl q2 ?_
    refine zi_a (st' := .int 2 :: _) rfl rfl rfl ?_
    refine zi_a rfl rfl rfl ?_
    refine zi_ifd rfl rfl rfl (tgt := 78) (by decide) (fun c3 => ?_) (fun c3 => ?_)
    · rw [if_pos c3] at hk
      refine zi_l rfl rfl rfl ?_
      refine zi_l rfl rfl rfl ?_
      refine zm_ga (f := 12) h rfl rfl (by decide) ?_
      refine zi_l rfl rfl rfl ?_
      by_cases q4 : zix l1 500
      case neg => rw [if_neg q4] at hk; cases hk
      rw [if_pos q4] at hk
      refine zm_ld (f := 12) h rfl (by decide) rfl q4 ?_
      refine zi_l rfl rfl rfl ?_
      cases c5 : g_still (μ.1 12 (l1).toNatClampNeg) l2 μ with
      | none => rw [c5] at hk; cases hk
      | some q1 =>
        obtain ⟨v6, m7⟩ := q1
        rw [c5] at hk
        dsimp only at hk
        refine zm_c h rfl rfl rfl rfl rfl rfl (H_still c5 h (fun w h => ?_))
        cases hk
        exact zi_ri rfl rfl (k w h)
    · rw [if_neg c3] at hk
      exact mT_still_73 hq H_still hk h k
def mF_still_153 (g_still : Int32 → Int32 → mS → Option (Int32 × mS)) (l1 : Int32) (l2 : Int32) (l3 : Int32) (s1 : Int32) (μ : mS) : Option (Int32 × mS) :=
  match g_still s1 l2 μ with | none => none | some (v2, m3) => some (v2, m3)
theorem mT_still_153 {S : zS} {q : Nat} {w w0 : zW} {Post : Option Value → zW → Prop} {m0 : Nat} {μ μ2 : mS} {v : Int32} {g_still : Int32 → Int32 → mS → Option (Int32 × mS)} {l1 : Int32} {l2 : Int32} {l3 : Int32} {s1 : Int32} (hq : 0 ≤ q) (H_still : ∀ {x1 x2 : Int32} {ν ν2 : mS} {y : Int32} {w : zW} {P : Option Value → zW → Prop}, g_still x1 x2 ν = some (y, ν2) → mW m0 w0 ν w → (∀ w2, mW m0 w0 ν2 w2 → P (some (.int y)) w2) → zOk S q 101 0 (lv_args 0 [.ref m0, .int x1, .int x2]) [] w P) (hk : mF_still_153 g_still l1 l2 l3 s1 μ = some (v, μ2)) (h : mW m0 w0 μ w) (k : ∀ w2, mW m0 w0 μ2 w2 → Post (some (.int v)) w2) : zOk S (q + 1) 101 153 [(0, .ref m0), (1, .int l1), (2, .int l2), (3, .int l3)] [.int s1, .ref m0] w Post := by
  unfold mF_still_153 at hk
  refine zi_l rfl rfl rfl ?_
  cases c1 : g_still s1 l2 μ with
  | none => rw [c1] at hk; cases hk
  | some q1 =>
    obtain ⟨v2, m3⟩ := q1
    rw [c1] at hk
    dsimp only at hk
    refine zm_c h rfl rfl rfl rfl rfl rfl (H_still c1 h (fun w h => ?_))
    cases hk
    exact zi_ri rfl rfl (k w h)
def mF_still_114 (g_still : Int32 → Int32 → mS → Option (Int32 × mS)) (l1 : Int32) (l2 : Int32) (l3 : Int32) (μ : mS) : Option (Int32 × mS) :=
  if zix l1 500 then if ¬ (μ.1 14 (l1).toNatClampNeg) = (2 : Int32) then (if zix l1 500 then if ¬ (μ.1 14 (l1).toNatClampNeg) = 0 then (if zix l1 500 then mF_still_153 g_still l1 l2 l3 (μ.1 12 (l1).toNatClampNeg) μ else none) else (if zix l1 500 then mF_still_153 g_still l1 l2 l3 (μ.1 11 (l1).toNatClampNeg) μ else none) else none) else (some ((-1 : Int32), μ)) else none
theorem mT_still_114 {S : zS} {q : Nat} {w w0 : zW} {Post : Option Value → zW → Prop} {m0 : Nat} {μ μ2 : mS} {v : Int32} {g_still : Int32 → Int32 → mS → Option (Int32 × mS)} {l1 : Int32} {l2 : Int32} {l3 : Int32} (hq : 0 ≤ q) (H_still : ∀ {x1 x2 : Int32} {ν ν2 : mS} {y : Int32} {w : zW} {P : Option Value → zW → Prop}, g_still x1 x2 ν = some (y, ν2) → mW m0 w0 ν w → (∀ w2, mW m0 w0 ν2 w2 → P (some (.int y)) w2) → zOk S q 101 0 (lv_args 0 [.ref m0, .int x1, .int x2]) [] w P) (hk : mF_still_114 g_still l1 l2 l3 μ = some (v, μ2)) (h : mW m0 w0 μ w) (k : ∀ w2, mW m0 w0 μ2 w2 → Post (some (.int v)) w2) : zOk S (q + 1) 101 114 [(0, .ref m0), (1, .int l1), (2, .int l2), (3, .int l3)] [] w Post := by
  unfold mF_still_114 at hk
  refine zi_l rfl rfl rfl ?_
  refine zm_ga (f := 14) h rfl rfl (by decide) ?_
  refine zi_l rfl rfl rfl ?_
  by_cases q1 : zix l1 500
  case neg => rw [if_neg q1] at hk; cases hk
  rw [if_pos q1] at hk
  refine zm_ld (f := 14) h rfl (by decide) rfl q1 ?_
  refine zi_a (st' := .int 2 :: _) rfl rfl rfl ?_
  refine zi_ifd rfl rfl rfl (tgt := 128) (by decide) (fun c2 => ?_) (fun c2 => ?_)
  · rw [if_pos c2] at hk
    refine zi_l rfl rfl rfl ?_
    refine zi_l rfl rfl rfl ?_
    refine zm_ga (f := 14) h rfl rfl (by decide) ?_
    refine zi_l rfl rfl rfl ?_
    by_cases q3 : zix l1 500
    case neg => rw [if_neg q3] at hk; cases hk
    rw [if_pos q3] at hk
    refine zm_ld (f := 14) h rfl (by decide) rfl q3 ?_
    refine zi_ifd rfl rfl rfl (tgt := 147) (by decide) (fun c4 => ?_) (fun c4 => ?_)
    · rw [if_pos c4] at hk
      refine zi_l rfl rfl rfl ?_
      refine zm_ga (f := 12) h rfl rfl (by decide) ?_
      refine zi_l rfl rfl rfl ?_
      by_cases q5 : zix l1 500
      case neg => rw [if_neg q5] at hk; cases hk
      rw [if_pos q5] at hk
      refine zm_ld (f := 12) h rfl (by decide) rfl q5 ?_
      exact mT_still_153 hq H_still hk h k
    · rw [if_neg c4] at hk
      refine zi_l rfl rfl rfl ?_
      refine zm_ga (f := 11) h rfl rfl (by decide) ?_
      refine zi_l rfl rfl rfl ?_
      by_cases q6 : zix l1 500
      case neg => rw [if_neg q6] at hk; cases hk
      rw [if_pos q6] at hk
      refine zm_ld (f := 11) h rfl (by decide) rfl q6 ?_
      refine zi_go rfl rfl rfl (tgt := 153) (by decide) ?_
      exact mT_still_153 hq H_still hk h k
  · rw [if_neg c2] at hk
    refine zi_a (st' := .int (-1) :: _) rfl rfl rfl ?_
    refine zi_go rfl rfl rfl (tgt := 157) (by decide) ?_
    cases hk
    exact zi_ri rfl rfl (k w h)
def mF_still_249 (g_still : Int32 → Int32 → mS → Option (Int32 × mS)) (l1 : Int32) (l2 : Int32) (l3 : Int32) (l4 : Int32) (s1 : Int32) (s2 : Int32) (μ : mS) : Option (Int32 × mS) :=
  mPut (mu1 μ 36 0 (s1 - s2)) fun m1 => if l4 = 0 then (some ((-1 : Int32), m1)) else (if 0 ≤ (m1.1 36 0) then (some ((-1 : Int32), m1)) else (some (l1, m1)))
theorem mT_still_249 {S : zS} {q : Nat} {w w0 : zW} {Post : Option Value → zW → Prop} {m0 : Nat} {μ μ2 : mS} {v : Int32} {g_still : Int32 → Int32 → mS → Option (Int32 × mS)} {l1 : Int32} {l2 : Int32} {l3 : Int32} {l4 : Int32} {s1 : Int32} {s2 : Int32} (hq : 0 ≤ q) (H_still : ∀ {x1 x2 : Int32} {ν ν2 : mS} {y : Int32} {w : zW} {P : Option Value → zW → Prop}, g_still x1 x2 ν = some (y, ν2) → mW m0 w0 ν w → (∀ w2, mW m0 w0 ν2 w2 → P (some (.int y)) w2) → zOk S q 101 0 (lv_args 0 [.ref m0, .int x1, .int x2]) [] w P) (hk : mF_still_249 g_still l1 l2 l3 l4 s1 s2 μ = some (v, μ2)) (h : mW m0 w0 μ w) (k : ∀ w2, mW m0 w0 μ2 w2 → Post (some (.int v)) w2) : zOk S (q + 1) 101 249 [(0, .ref m0), (1, .int l1), (2, .int l2), (3, .int l3), (4, .int l4)] [.int s2, .int s1, .ref m0] w Post := by
  unfold mF_still_249 at hk
  refine zi_a rfl rfl rfl ?_
  refine zm_p h rfl rfl rfl rfl ⟨rfl, rfl, Or.inl rfl⟩ (fun w h => ?_)
  generalize mu1 μ 36 0 (s1 - s2) = m1 at h hk
  rw [mPut_eq] at hk
  refine zi_l rfl rfl rfl ?_
  refine zi_ifd rfl rfl rfl (tgt := 269) (by decide) (fun c2 => ?_) (fun c2 => ?_)
  · rw [if_pos c2] at hk
    refine zi_a (st' := .int (-1) :: _) rfl rfl rfl ?_
    cases hk
    exact zi_ri rfl rfl (k w h)
  · rw [if_neg c2] at hk
    refine zi_l rfl rfl rfl ?_
    refine zm_g h rfl rfl rfl rfl ?_
    refine zi_ifd rfl rfl rfl (tgt := 269) (by decide) (fun c3 => ?_) (fun c3 => ?_)
    · rw [if_pos c3] at hk
      refine zi_a (st' := .int (-1) :: _) rfl rfl rfl ?_
      cases hk
      exact zi_ri rfl rfl (k w h)
    · rw [if_neg c3] at hk
      refine zi_l rfl rfl rfl ?_
      refine zi_go rfl rfl rfl (tgt := 270) (by decide) ?_
      cases hk
      exact zi_ri rfl rfl (k w h)
def mF_still_232 (g_still : Int32 → Int32 → mS → Option (Int32 × mS)) (l1 : Int32) (l2 : Int32) (l3 : Int32) (s0 : Int32) (μ : mS) : Option (Int32 × mS) :=
  if s0 = 0 then (mF_still_249 g_still l1 l2 l3 s0 (μ.1 36 0) (0 : Int32) μ) else (mF_still_249 g_still l1 l2 l3 s0 (μ.1 36 0) (1 : Int32) μ)
theorem mT_still_232 {S : zS} {q : Nat} {w w0 : zW} {Post : Option Value → zW → Prop} {m0 : Nat} {μ μ2 : mS} {v : Int32} {g_still : Int32 → Int32 → mS → Option (Int32 × mS)} {l1 : Int32} {l2 : Int32} {l3 : Int32} {s0 : Int32} (hq : 0 ≤ q) (H_still : ∀ {x1 x2 : Int32} {ν ν2 : mS} {y : Int32} {w : zW} {P : Option Value → zW → Prop}, g_still x1 x2 ν = some (y, ν2) → mW m0 w0 ν w → (∀ w2, mW m0 w0 ν2 w2 → P (some (.int y)) w2) → zOk S q 101 0 (lv_args 0 [.ref m0, .int x1, .int x2]) [] w P) (hk : mF_still_232 g_still l1 l2 l3 s0 μ = some (v, μ2)) (h : mW m0 w0 μ w) (k : ∀ w2, mW m0 w0 μ2 w2 → Post (some (.int v)) w2) : zOk S (q + 1) 101 232 [(0, .ref m0), (1, .int l1), (2, .int l2), (3, .int l3)] [.int s0] w Post := by
  unfold mF_still_232 at hk
  refine zi_l rfl rfl rfl ?_
  refine zi_l rfl rfl rfl ?_
  refine zi_a rfl rfl rfl ?_
  refine zm_g h rfl rfl rfl rfl ?_
  refine zi_l rfl rfl rfl ?_
  refine zi_ifd rfl rfl rfl (tgt := 248) (by decide) (fun c1 => ?_) (fun c1 => ?_)
  · rw [if_pos c1] at hk
    refine zi_a (st' := .int 0 :: _) rfl rfl rfl ?_
    exact mT_still_249 hq H_still hk h k
  · rw [if_neg c1] at hk
    refine zi_a (st' := .int 1 :: _) rfl rfl rfl ?_
    refine zi_go rfl rfl rfl (tgt := 249) (by decide) ?_
    exact mT_still_249 hq H_still hk h k
def mF_still_199 (g_still : Int32 → Int32 → mS → Option (Int32 × mS)) (l1 : Int32) (l2 : Int32) (l3 : Int32) (μ : mS) : Option (Int32 × mS) :=
  mF_still_232 g_still l1 l2 l3 (0 : Int32) μ
theorem mT_still_199 {S : zS} {q : Nat} {w w0 : zW} {Post : Option Value → zW → Prop} {m0 : Nat} {μ μ2 : mS} {v : Int32} {g_still : Int32 → Int32 → mS → Option (Int32 × mS)} {l1 : Int32} {l2 : Int32} {l3 : Int32} (hq : 0 ≤ q) (H_still : ∀ {x1 x2 : Int32} {ν ν2 : mS} {y : Int32} {w : zW} {P : Option Value → zW → Prop}, g_still x1 x2 ν = some (y, ν2) → mW m0 w0 ν w → (∀ w2, mW m0 w0 ν2 w2 → P (some (.int y)) w2) → zOk S q 101 0 (lv_args 0 [.ref m0, .int x1, .int x2]) [] w P) (hk : mF_still_199 g_still l1 l2 l3 μ = some (v, μ2)) (h : mW m0 w0 μ w) (k : ∀ w2, mW m0 w0 μ2 w2 → Post (some (.int v)) w2) : zOk S (q + 1) 101 199 [(0, .ref m0), (1, .int l1), (2, .int l2), (3, .int l3)] [] w Post := by
  unfold mF_still_199 at hk
  refine zi_a (st' := .int 0 :: _) rfl rfl rfl ?_
  refine zi_go rfl rfl rfl (tgt := 232) (by decide) ?_
  exact mT_still_232 hq H_still hk h k
def mF_still_227 (g_still : Int32 → Int32 → mS → Option (Int32 × mS)) (l1 : Int32) (l2 : Int32) (l3 : Int32) (μ : mS) : Option (Int32 × mS) :=
  mF_still_232 g_still l1 l2 l3 (1 : Int32) μ
theorem mT_still_227 {S : zS} {q : Nat} {w w0 : zW} {Post : Option Value → zW → Prop} {m0 : Nat} {μ μ2 : mS} {v : Int32} {g_still : Int32 → Int32 → mS → Option (Int32 × mS)} {l1 : Int32} {l2 : Int32} {l3 : Int32} (hq : 0 ≤ q) (H_still : ∀ {x1 x2 : Int32} {ν ν2 : mS} {y : Int32} {w : zW} {P : Option Value → zW → Prop}, g_still x1 x2 ν = some (y, ν2) → mW m0 w0 ν w → (∀ w2, mW m0 w0 ν2 w2 → P (some (.int y)) w2) → zOk S q 101 0 (lv_args 0 [.ref m0, .int x1, .int x2]) [] w P) (hk : mF_still_227 g_still l1 l2 l3 μ = some (v, μ2)) (h : mW m0 w0 μ w) (k : ∀ w2, mW m0 w0 μ2 w2 → Post (some (.int v)) w2) : zOk S (q + 1) 101 227 [(0, .ref m0), (1, .int l1), (2, .int l2), (3, .int l3)] [] w Post := by
  unfold mF_still_227 at hk
  refine zi_a (st' := .int 1 :: _) rfl rfl rfl ?_
  refine zi_go rfl rfl rfl (tgt := 232) (by decide) ?_
  exact mT_still_232 hq H_still hk h k
def mF_still (g_still : Int32 → Int32 → mS → Option (Int32 × mS)) (a1 : Int32) (a2 : Int32) (μ : mS) : Option (Int32 × mS) :=
  if zix a1 500 then if ¬ (μ.1 13 (a1).toNatClampNeg) = 0 then (if zix a1 500 then if zix (μ.1 10 (a1).toNatClampNeg) 200 then if ¬ (μ.1 1 ((μ.1 10 (a1).toNatClampNeg)).toNatClampNeg) = (15 : Int32) then (if (μ.1 1 ((μ.1 10 (a1).toNatClampNeg)).toNatClampNeg) = (10 : Int32) then (mF_still_114 g_still a1 a2 (μ.1 1 ((μ.1 10 (a1).toNatClampNeg)).toNatClampNeg) μ) else (if (μ.1 1 ((μ.1 10 (a1).toNatClampNeg)).toNatClampNeg) = (16 : Int32) then (mF_still_114 g_still a1 a2 (μ.1 1 ((μ.1 10 (a1).toNatClampNeg)).toNatClampNeg) μ) else (if (μ.1 1 ((μ.1 10 (a1).toNatClampNeg)).toNatClampNeg) = (18 : Int32) then (mF_still_114 g_still a1 a2 (μ.1 1 ((μ.1 10 (a1).toNatClampNeg)).toNatClampNeg) μ) else (if ¬ (μ.1 1 ((μ.1 10 (a1).toNatClampNeg)).toNatClampNeg) = (21 : Int32) then (if ¬ (μ.1 1 ((μ.1 10 (a1).toNatClampNeg)).toNatClampNeg) = (17 : Int32) then (if a2 = 0 then (if (μ.1 1 ((μ.1 10 (a1).toNatClampNeg)).toNatClampNeg) = (13 : Int32) then (mF_still_227 g_still a1 a2 (μ.1 1 ((μ.1 10 (a1).toNatClampNeg)).toNatClampNeg) μ) else (if (μ.1 1 ((μ.1 10 (a1).toNatClampNeg)).toNatClampNeg) = (14 : Int32) then (mF_still_227 g_still a1 a2 (μ.1 1 ((μ.1 10 (a1).toNatClampNeg)).toNatClampNeg) μ) else (if (μ.1 1 ((μ.1 10 (a1).toNatClampNeg)).toNatClampNeg) = (19 : Int32) then (mF_still_227 g_still a1 a2 (μ.1 1 ((μ.1 10 (a1).toNatClampNeg)).toNatClampNeg) μ) else (if ¬ (μ.1 1 ((μ.1 10 (a1).toNatClampNeg)).toNatClampNeg) = (20 : Int32) then (mF_still_232 g_still a1 a2 (μ.1 1 ((μ.1 10 (a1).toNatClampNeg)).toNatClampNeg) (0 : Int32) μ) else (mF_still_227 g_still a1 a2 (μ.1 1 ((μ.1 10 (a1).toNatClampNeg)).toNatClampNeg) μ))))) else (if ¬ (μ.1 1 ((μ.1 10 (a1).toNatClampNeg)).toNatClampNeg) = (20 : Int32) then (mF_still_199 g_still a1 a2 (μ.1 1 ((μ.1 10 (a1).toNatClampNeg)).toNatClampNeg) μ) else (if zix a1 500 then if ¬ (μ.1 14 (a1).toNatClampNeg) = 0 then (mF_still_199 g_still a1 a2 (μ.1 1 ((μ.1 10 (a1).toNatClampNeg)).toNatClampNeg) μ) else (mF_still_232 g_still a1 a2 (μ.1 1 ((μ.1 10 (a1).toNatClampNeg)).toNatClampNeg) (1 : Int32) μ) else none))) else (if zix a1 500 then match g_still (μ.1 11 (a1).toNatClampNeg) a2 μ with | none => none | some (v21, m22) => some (v21, m22) else none)) else (mF_still_114 g_still a1 a2 (μ.1 1 ((μ.1 10 (a1).toNatClampNeg)).toNatClampNeg) μ))))) else (if zix a1 500 then if ¬ ((μ.1 14 (a1).toNatClampNeg) &&& (1 : Int32)) = 0 then (mF_still_55 g_still a1 a2 (μ.1 1 ((μ.1 10 (a1).toNatClampNeg)).toNatClampNeg) (-1 : Int32) μ) else (if zix a1 500 then match g_still (μ.1 11 (a1).toNatClampNeg) a2 μ with | none => none | some (v27, m28) => mF_still_55 g_still a1 a2 (μ.1 1 ((μ.1 10 (a1).toNatClampNeg)).toNatClampNeg) v27 m28 else none) else none) else none else none) else (some ((-1 : Int32), μ)) else none
theorem mT_still {S : zS} {q : Nat} {w w0 : zW} {Post : Option Value → zW → Prop} {m0 : Nat} {μ μ2 : mS} {v : Int32} {g_still : Int32 → Int32 → mS → Option (Int32 × mS)} {a1 : Int32} {a2 : Int32} (hq : 0 ≤ q) (H_still : ∀ {x1 x2 : Int32} {ν ν2 : mS} {y : Int32} {w : zW} {P : Option Value → zW → Prop}, g_still x1 x2 ν = some (y, ν2) → mW m0 w0 ν w → (∀ w2, mW m0 w0 ν2 w2 → P (some (.int y)) w2) → zOk S q 101 0 (lv_args 0 [.ref m0, .int x1, .int x2]) [] w P) (hk : mF_still g_still a1 a2 μ = some (v, μ2)) (h : mW m0 w0 μ w) (k : ∀ w2, mW m0 w0 μ2 w2 → Post (some (.int v)) w2) : zOk S (q + 1) 101 0 (lv_args 0 [.ref m0, .int a1, .int a2]) [] w Post := by
  unfold mF_still at hk
  refine zi_l rfl rfl rfl ?_
  refine zm_ga (f := 13) h rfl rfl (by decide) ?_
  refine zi_l rfl rfl rfl ?_
  by_cases q1 : zix a1 500
  case neg => rw [if_neg q1] at hk; cases hk
  rw [if_pos q1] at hk
  refine zm_lz (f := 13) h rfl (by decide) rfl q1 ?_
  refine zi_ifd rfl rfl rfl (tgt := 11) (by decide) (fun c2 => ?_) (fun c2 => ?_)
  · rw [if_pos c2] at hk
    refine zi_l rfl rfl rfl ?_
    refine zm_ga (f := 1) h rfl rfl (by decide) ?_
    refine zi_l rfl rfl rfl ?_
    refine zm_ga (f := 10) h rfl rfl (by decide) ?_
    refine zi_l rfl rfl rfl ?_
    by_cases q3 : zix a1 500
    case neg => rw [if_neg q3] at hk; cases hk
    rw [if_pos q3] at hk
    refine zm_ld (f := 10) h rfl (by decide) rfl q3 ?_
    by_cases q4 : zix (μ.1 10 (a1).toNatClampNeg) 200
    case neg => rw [if_neg q4] at hk; cases hk
    rw [if_pos q4] at hk
    refine zm_ld (f := 1) h rfl (by decide) rfl q4 ?_
    refine zi_l rfl rfl rfl ?_
    refine zi_l rfl rfl rfl ?_
    refine zi_a (st' := .int 15 :: _) rfl rfl rfl ?_
    refine zi_ifd rfl rfl rfl (tgt := 90) (by decide) (fun c5 => ?_) (fun c5 => ?_)
    · rw [if_pos c5] at hk
      refine zi_l rfl rfl rfl ?_
      refine zi_a (st' := .int 10 :: _) rfl rfl rfl ?_
      refine zi_ifd rfl rfl rfl (tgt := 114) (by decide) (fun c6 => ?_) (fun c6 => ?_)
      · rw [if_pos c6] at hk
        exact mT_still_114 hq H_still hk h k
      · rw [if_neg c6] at hk
        refine zi_l rfl rfl rfl ?_
        refine zi_a (st' := .int 16 :: _) rfl rfl rfl ?_
        refine zi_ifd rfl rfl rfl (tgt := 114) (by decide) (fun c7 => ?_) (fun c7 => ?_)
        · rw [if_pos c7] at hk
          exact mT_still_114 hq H_still hk h k
        · rw [if_neg c7] at hk
          refine zi_l rfl rfl rfl ?_
          refine zi_a (st' := .int 18 :: _) rfl rfl rfl ?_
          refine zi_ifd rfl rfl rfl (tgt := 114) (by decide) (fun c8 => ?_) (fun c8 => ?_)
          · rw [if_pos c8] at hk
            exact mT_still_114 hq H_still hk h k
          · rw [if_neg c8] at hk
            refine zi_l rfl rfl rfl ?_
            refine zi_a (st' := .int 21 :: _) rfl rfl rfl ?_
            refine zi_ifd rfl rfl rfl (tgt := 158) (by decide) (fun c9 => ?_) (fun c9 => ?_)
            · rw [if_pos c9] at hk
              refine zi_l rfl rfl rfl ?_
              refine zi_a (st' := .int 17 :: _) rfl rfl rfl ?_
              refine zi_ifd rfl rfl rfl (tgt := 176) (by decide) (fun c10 => ?_) (fun c10 => ?_)
              · rw [if_pos c10] at hk
                refine zi_l rfl rfl rfl ?_
                refine zi_ifd rfl rfl rfl (tgt := 203) (by decide) (fun c11 => ?_) (fun c11 => ?_)
                · rw [if_pos c11] at hk
                  refine zi_l rfl rfl rfl ?_
                  refine zi_a (st' := .int 13 :: _) rfl rfl rfl ?_
                  refine zi_ifd rfl rfl rfl (tgt := 227) (by decide) (fun c12 => ?_) (fun c12 => ?_)
                  · rw [if_pos c12] at hk
                    exact mT_still_227 hq H_still hk h k
                  · rw [if_neg c12] at hk
                    refine zi_l rfl rfl rfl ?_
                    refine zi_a (st' := .int 14 :: _) rfl rfl rfl ?_
                    refine zi_ifd rfl rfl rfl (tgt := 227) (by decide) (fun c13 => ?_) (fun c13 => ?_)
                    · rw [if_pos c13] at hk
                      exact mT_still_227 hq H_still hk h k
                    · rw [if_neg c13] at hk
                      refine zi_l rfl rfl rfl ?_
                      refine zi_a (st' := .int 19 :: _) rfl rfl rfl ?_
                      refine zi_ifd rfl rfl rfl (tgt := 227) (by decide) (fun c14 => ?_) (fun c14 => ?_)
                      · rw [if_pos c14] at hk
                        exact mT_still_227 hq H_still hk h k
                      · rw [if_neg c14] at hk
                        refine zi_l rfl rfl rfl ?_
                        refine zi_a (st' := .int 20 :: _) rfl rfl rfl ?_
                        refine zi_ifd rfl rfl rfl (tgt := 231) (by decide) (fun c15 => ?_) (fun c15 => ?_)
                        · rw [if_pos c15] at hk
                          refine zi_a (st' := .int 0 :: _) rfl rfl rfl ?_
                          exact mT_still_232 hq H_still hk h k
                        · rw [if_neg c15] at hk
                          exact mT_still_227 hq H_still hk h k
                · rw [if_neg c11] at hk
                  refine zi_l rfl rfl rfl ?_
                  refine zi_a (st' := .int 20 :: _) rfl rfl rfl ?_
                  refine zi_ifd rfl rfl rfl (tgt := 199) (by decide) (fun c16 => ?_) (fun c16 => ?_)
                  · rw [if_pos c16] at hk
                    exact mT_still_199 hq H_still hk h k
                  · rw [if_neg c16] at hk
                    refine zi_l rfl rfl rfl ?_
                    refine zm_ga (f := 14) h rfl rfl (by decide) ?_
                    refine zi_l rfl rfl rfl ?_
                    by_cases q17 : zix a1 500
                    case neg => rw [if_neg q17] at hk; cases hk
                    rw [if_pos q17] at hk
                    refine zm_ld (f := 14) h rfl (by decide) rfl q17 ?_
                    refine zi_ifd rfl rfl rfl (tgt := 199) (by decide) (fun c18 => ?_) (fun c18 => ?_)
                    · rw [if_pos c18] at hk
                      exact mT_still_199 hq H_still hk h k
                    · rw [if_neg c18] at hk
                      refine zi_a (st' := .int 1 :: _) rfl rfl rfl ?_
                      refine zi_go rfl rfl rfl (tgt := 232) (by decide) ?_
                      exact mT_still_232 hq H_still hk h k
              · rw [if_neg c10] at hk
                refine zi_l rfl rfl rfl ?_
                refine zi_l rfl rfl rfl ?_
                refine zm_ga (f := 11) h rfl rfl (by decide) ?_
                refine zi_l rfl rfl rfl ?_
                by_cases q19 : zix a1 500
                case neg => rw [if_neg q19] at hk; cases hk
                rw [if_pos q19] at hk
                refine zm_ld (f := 11) h rfl (by decide) rfl q19 ?_
                refine zi_l rfl rfl rfl ?_
                cases c20 : g_still (μ.1 11 (a1).toNatClampNeg) a2 μ with
                | none => rw [c20] at hk; cases hk
                | some q1 =>
                  obtain ⟨v21, m22⟩ := q1
                  rw [c20] at hk
                  dsimp only at hk
                  refine zm_c h rfl rfl rfl rfl rfl rfl (H_still c20 h (fun w h => ?_))
                  cases hk
                  exact zi_ri rfl rfl (k w h)
            · rw [if_neg c9] at hk
              exact mT_still_114 hq H_still hk h k
    · rw [if_neg c5] at hk
      refine zi_l rfl rfl rfl ?_
      refine zm_ga (f := 14) h rfl rfl (by decide) ?_
      refine zi_l rfl rfl rfl ?_
      by_cases q23 : zix a1 500
      case neg => rw [if_neg q23] at hk; cases hk
      rw [if_pos q23] at hk
      refine zm_ld (f := 14) h rfl (by decide) rfl q23 ?_
      refine zi_a (st' := .int 1 :: _) rfl rfl rfl ?_
      refine zi_a rfl rfl rfl ?_
      refine zi_ifd rfl rfl rfl (tgt := 54) (by decide) (fun c24 => ?_) (fun c24 => ?_)
      · rw [if_pos c24] at hk
        refine zi_a (st' := .int (-1) :: _) rfl rfl rfl ?_
        exact mT_still_55 hq H_still hk h k
      · rw [if_neg c24] at hk
        refine zi_l rfl rfl rfl ?_
        refine zi_l rfl rfl rfl ?_
        refine zm_ga (f := 11) h rfl rfl (by decide) ?_
        refine zi_l rfl rfl rfl ?_
        by_cases q25 : zix a1 500
        case neg => rw [if_neg q25] at hk; cases hk
        rw [if_pos q25] at hk
        refine zm_ld (f := 11) h rfl (by decide) rfl q25 ?_
        refine zi_l rfl rfl rfl ?_
        cases c26 : g_still (μ.1 11 (a1).toNatClampNeg) a2 μ with
        | none => rw [c26] at hk; cases hk
        | some q1 =>
          obtain ⟨v27, m28⟩ := q1
          rw [c26] at hk
          dsimp only at hk
          refine zm_c h rfl rfl rfl rfl rfl rfl (H_still c26 h (fun w h => ?_))
          refine zi_go rfl rfl rfl (tgt := 55) (by decide) ?_
          exact mT_still_55 hq H_still hk h k
  · rw [if_neg c2] at hk
    refine zi_a (st' := .int (-1) :: _) rfl rfl rfl ?_
    cases hk
    exact zi_ri rfl rfl (k w h)
def mF_step (g_still : Int32 → Int32 → mS → Option (Int32 × mS)) (a1 : Int32) (μ : mS) : Option (Int32 × mS) :=
  match mF_isOpen  μ with | none => none | some (v2, m3) => if v2 = 0 then (some ((-1 : Int32), m3)) else (if 0 ≤ a1 then (mPut (mu1 m3 36 0 a1) fun m6 => match g_still (0 : Int32) (0 : Int32) m6 with | none => none | some (v8, m9) => if 0 ≤ v8 then (if zix v8 500 then some ((m9.1 10 (v8).toNatClampNeg), m9) else none) else (some ((-1 : Int32), m9))) else (some ((-1 : Int32), m3)))
theorem mT_step {S : zS} {q : Nat} {w w0 : zW} {Post : Option Value → zW → Prop} {m0 : Nat} {μ μ2 : mS} {v : Int32} {g_still : Int32 → Int32 → mS → Option (Int32 × mS)} {a1 : Int32} (hq : 1 ≤ q) (H_still : ∀ {x1 x2 : Int32} {ν ν2 : mS} {y : Int32} {w : zW} {P : Option Value → zW → Prop}, g_still x1 x2 ν = some (y, ν2) → mW m0 w0 ν w → (∀ w2, mW m0 w0 ν2 w2 → P (some (.int y)) w2) → zOk S q 101 0 (lv_args 0 [.ref m0, .int x1, .int x2]) [] w P) (hk : mF_step g_still a1 μ = some (v, μ2)) (h : mW m0 w0 μ w) (k : ∀ w2, mW m0 w0 μ2 w2 → Post (some (.int v)) w2) : zOk S (q + 1) 99 0 (lv_args 0 [.ref m0, .int a1]) [] w Post := by
  unfold mF_step at hk
  refine zi_l rfl rfl rfl ?_
  cases c1 : mF_isOpen  μ with
  | none => rw [c1] at hk; cases hk
  | some q1 =>
    obtain ⟨v2, m3⟩ := q1
    rw [c1] at hk
    dsimp only at hk
    refine zm_c h rfl rfl rfl rfl rfl rfl ((mT_isOpen (q := 0) (Nat.le_refl _) c1 h (fun w h => ?_)).deep (by omega))
    refine zi_ifd rfl rfl rfl (tgt := 11) (by decide) (fun c4 => ?_) (fun c4 => ?_)
    · rw [if_pos c4] at hk
      refine zi_a (st' := .int (-1) :: _) rfl rfl rfl ?_
      cases hk
      exact zi_ri rfl rfl (k w h)
    · rw [if_neg c4] at hk
      refine zi_l rfl rfl rfl ?_
      refine zi_ifd rfl rfl rfl (tgt := 13) (by decide) (fun c5 => ?_) (fun c5 => ?_)
      · rw [if_pos c5] at hk
        refine zi_l rfl rfl rfl ?_
        refine zi_l rfl rfl rfl ?_
        refine zm_p h rfl rfl rfl rfl ⟨rfl, rfl, Or.inl rfl⟩ (fun w h => ?_)
        generalize mu1 m3 36 0 a1 = m6 at h hk
        rw [mPut_eq] at hk
        refine zi_l rfl rfl rfl ?_
        refine zi_a (st' := .int 0 :: _) rfl rfl rfl ?_
        refine zi_a (st' := .int 0 :: _) rfl rfl rfl ?_
        cases c7 : g_still (0 : Int32) (0 : Int32) m6 with
        | none => rw [c7] at hk; cases hk
        | some q1 =>
          obtain ⟨v8, m9⟩ := q1
          rw [c7] at hk
          dsimp only at hk
          refine zm_c h rfl rfl rfl rfl rfl rfl (H_still c7 h (fun w h => ?_))
          refine zi_l rfl rfl rfl ?_
          refine zi_l rfl rfl rfl ?_
          refine zi_ifd rfl rfl rfl (tgt := 33) (by decide) (fun c10 => ?_) (fun c10 => ?_)
          · rw [if_pos c10] at hk
            refine zi_l rfl rfl rfl ?_
            refine zm_ga (f := 10) h rfl rfl (by decide) ?_
            refine zi_l rfl rfl rfl ?_
            by_cases q11 : zix v8 500
            case neg => rw [if_neg q11] at hk; cases hk
            rw [if_pos q11] at hk
            refine zm_ld (f := 10) h rfl (by decide) rfl q11 ?_
            cases hk
            exact zi_ri rfl rfl (k w h)
          · rw [if_neg c10] at hk
            refine zi_a (st' := .int (-1) :: _) rfl rfl rfl ?_
            refine zi_go rfl rfl rfl (tgt := 39) (by decide) ?_
            cases hk
            exact zi_ri rfl rfl (k w h)
      · rw [if_neg c5] at hk
        refine zi_a (st' := .int (-1) :: _) rfl rfl rfl ?_
        cases hk
        exact zi_ri rfl rfl (k w h)
def mF_answer (g_still : Int32 → Int32 → mS → Option (Int32 × mS)) (a1 : Int64) (μ : mS) : Option (Int32 × mS) :=
  match mF_isOpen  μ with | none => none | some (v2, m3) => if v2 = 0 then (some ((0 : Int32), m3)) else (if ¬ (m3.1 25 0) = (2 : Int32) then (mPut (mu1 m3 36 0 (0 : Int32)) fun m6 => match g_still (0 : Int32) (1 : Int32) m6 with | none => none | some (v8, m9) => if 0 ≤ v8 then (if zix v8 500 then mPut (mu1 m9 14 (v8).toNatClampNeg (1 : Int32)) fun m12 => if zix v8 500 then if zix (m12.1 10 (v8).toNatClampNeg) 200 then if zix (m12.1 2 ((m12.1 10 (v8).toNatClampNeg)).toNatClampNeg) 16 then mPut (mu2 m12 20 ((m12.1 2 ((m12.1 10 (v8).toNatClampNeg)).toNatClampNeg)).toNatClampNeg a1) fun m16 => some ((1 : Int32), m16) else none else none else none else none) else (some ((0 : Int32), m9))) else (some ((0 : Int32), m3)))
theorem mT_answer {S : zS} {q : Nat} {w w0 : zW} {Post : Option Value → zW → Prop} {m0 : Nat} {μ μ2 : mS} {v : Int32} {g_still : Int32 → Int32 → mS → Option (Int32 × mS)} {a1 : Int64} (hq : 1 ≤ q) (H_still : ∀ {x1 x2 : Int32} {ν ν2 : mS} {y : Int32} {w : zW} {P : Option Value → zW → Prop}, g_still x1 x2 ν = some (y, ν2) → mW m0 w0 ν w → (∀ w2, mW m0 w0 ν2 w2 → P (some (.int y)) w2) → zOk S q 101 0 (lv_args 0 [.ref m0, .int x1, .int x2]) [] w P) (hk : mF_answer g_still a1 μ = some (v, μ2)) (h : mW m0 w0 μ w) (k : ∀ w2, mW m0 w0 μ2 w2 → Post (some (.int v)) w2) : zOk S (q + 1) 103 0 (lv_args 0 [.ref m0, .long a1]) [] w Post := by
  unfold mF_answer at hk
  refine zi_l rfl rfl rfl ?_
  cases c1 : mF_isOpen  μ with
  | none => rw [c1] at hk; cases hk
  | some q1 =>
    obtain ⟨v2, m3⟩ := q1
    rw [c1] at hk
    dsimp only at hk
    refine zm_c h rfl rfl rfl rfl rfl rfl ((mT_isOpen (q := 0) (Nat.le_refl _) c1 h (fun w h => ?_)).deep (by omega))
    refine zi_ifd rfl rfl rfl (tgt := 15) (by decide) (fun c4 => ?_) (fun c4 => ?_)
    · rw [if_pos c4] at hk
      refine zi_a (st' := .int 0 :: _) rfl rfl rfl ?_
      cases hk
      exact zi_rz rfl rfl (Or.inl rfl) (k w h)
    · rw [if_neg c4] at hk
      refine zi_l rfl rfl rfl ?_
      refine zm_g h rfl rfl rfl rfl ?_
      refine zi_a (st' := .int 2 :: _) rfl rfl rfl ?_
      refine zi_ifd rfl rfl rfl (tgt := 17) (by decide) (fun c5 => ?_) (fun c5 => ?_)
      · rw [if_pos c5] at hk
        refine zi_l rfl rfl rfl ?_
        refine zi_a (st' := .int 0 :: _) rfl rfl rfl ?_
        refine zm_p h rfl rfl rfl rfl ⟨rfl, rfl, Or.inl rfl⟩ (fun w h => ?_)
        generalize mu1 m3 36 0 (0 : Int32) = m6 at h hk
        rw [mPut_eq] at hk
        refine zi_l rfl rfl rfl ?_
        refine zi_a (st' := .int 0 :: _) rfl rfl rfl ?_
        refine zi_a (st' := .int 1 :: _) rfl rfl rfl ?_
        cases c7 : g_still (0 : Int32) (1 : Int32) m6 with
        | none => rw [c7] at hk; cases hk
        | some q1 =>
          obtain ⟨v8, m9⟩ := q1
          rw [c7] at hk
          dsimp only at hk
          refine zm_c h rfl rfl rfl rfl rfl rfl (H_still c7 h (fun w h => ?_))
          refine zi_l rfl rfl rfl ?_
          refine zi_l rfl rfl rfl ?_
          refine zi_ifd rfl rfl rfl (tgt := 35) (by decide) (fun c10 => ?_) (fun c10 => ?_)
          · rw [if_pos c10] at hk
            refine zi_l rfl rfl rfl ?_
            refine zm_ga (f := 14) h rfl rfl (by decide) ?_
            refine zi_l rfl rfl rfl ?_
            refine zi_a (st' := .int 1 :: _) rfl rfl rfl ?_
            by_cases q11 : zix v8 500
            case neg => rw [if_neg q11] at hk; cases hk
            rw [if_pos q11] at hk
            refine zm_st (f := 14) h rfl (by decide) rfl q11 (fun w h => ?_)
            generalize mu1 m9 14 (v8).toNatClampNeg (1 : Int32) = m12 at h hk
            rw [mPut_eq] at hk
            refine zi_l rfl rfl rfl ?_
            refine zm_ga (f := 20) h rfl rfl (by decide) ?_
            refine zi_l rfl rfl rfl ?_
            refine zm_ga (f := 2) h rfl rfl (by decide) ?_
            refine zi_l rfl rfl rfl ?_
            refine zm_ga (f := 10) h rfl rfl (by decide) ?_
            refine zi_l rfl rfl rfl ?_
            by_cases q13 : zix v8 500
            case neg => rw [if_neg q13] at hk; cases hk
            rw [if_pos q13] at hk
            refine zm_ld (f := 10) h rfl (by decide) rfl q13 ?_
            by_cases q14 : zix (m12.1 10 (v8).toNatClampNeg) 200
            case neg => rw [if_neg q14] at hk; cases hk
            rw [if_pos q14] at hk
            refine zm_ld (f := 2) h rfl (by decide) rfl q14 ?_
            refine zi_l rfl rfl rfl ?_
            by_cases q15 : zix (m12.1 2 ((m12.1 10 (v8).toNatClampNeg)).toNatClampNeg) 16
            case neg => rw [if_neg q15] at hk; cases hk
            rw [if_pos q15] at hk
            refine zm_sl (f := 20) h rfl (by decide) rfl q15 (fun w h => ?_)
            generalize mu2 m12 20 ((m12.1 2 ((m12.1 10 (v8).toNatClampNeg)).toNatClampNeg)).toNatClampNeg a1 = m16 at h hk
            rw [mPut_eq] at hk
            refine zi_a (st' := .int 1 :: _) rfl rfl rfl ?_
            cases hk
            exact zi_rz rfl rfl (Or.inr rfl) (k w h)
          · rw [if_neg c10] at hk
            refine zi_a (st' := .int 0 :: _) rfl rfl rfl ?_
            cases hk
            exact zi_rz rfl rfl (Or.inl rfl) (k w h)
      · rw [if_neg c5] at hk
        refine zi_a (st' := .int 0 :: _) rfl rfl rfl ?_
        cases hk
        exact zi_rz rfl rfl (Or.inl rfl) (k w h)
def mF_stop (g_giveUp : Int32 → mS → Option (Unit × mS)) (μ : mS) : Option (Int32 × mS) :=
  match mF_isOpen  μ with | none => none | some (v2, m3) => if ¬ v2 = 0 then (match g_giveUp (0 : Int32) m3 with | none => none | some (v6, m7) => mPut (mu1 m7 25 0 (3 : Int32)) fun m8 => some (((m8.1 34 0) - (m3.1 34 0)), m8)) else (some ((-1 : Int32), m3))
theorem mT_stop {S : zS} {q : Nat} {w w0 : zW} {Post : Option Value → zW → Prop} {m0 : Nat} {μ μ2 : mS} {v : Int32} {g_giveUp : Int32 → mS → Option (Unit × mS)} (hq : 1 ≤ q) (H_giveUp : ∀ {x1 : Int32} {ν ν2 : mS} {y : Unit} {w : zW} {P : Option Value → zW → Prop}, g_giveUp x1 ν = some (y, ν2) → mW m0 w0 ν w → (∀ w2, mW m0 w0 ν2 w2 → P none w2) → zOk S q 88 0 (lv_args 0 [.ref m0, .int x1]) [] w P) (hk : mF_stop g_giveUp μ = some (v, μ2)) (h : mW m0 w0 μ w) (k : ∀ w2, mW m0 w0 μ2 w2 → Post (some (.int v)) w2) : zOk S (q + 1) 105 0 (lv_args 0 [.ref m0]) [] w Post := by
  unfold mF_stop at hk
  refine zi_l rfl rfl rfl ?_
  cases c1 : mF_isOpen  μ with
  | none => rw [c1] at hk; cases hk
  | some q1 =>
    obtain ⟨v2, m3⟩ := q1
    rw [c1] at hk
    dsimp only at hk
    refine zm_c h rfl rfl rfl rfl rfl rfl ((mT_isOpen (q := 0) (Nat.le_refl _) c1 h (fun w h => ?_)).deep (by omega))
    refine zi_ifd rfl rfl rfl (tgt := 9) (by decide) (fun c4 => ?_) (fun c4 => ?_)
    · rw [if_pos c4] at hk
      refine zi_l rfl rfl rfl ?_
      refine zm_g h rfl rfl rfl rfl ?_
      refine zi_l rfl rfl rfl ?_
      refine zi_l rfl rfl rfl ?_
      refine zi_a (st' := .int 0 :: _) rfl rfl rfl ?_
      cases c5 : g_giveUp (0 : Int32) m3 with
      | none => rw [c5] at hk; cases hk
      | some q1 =>
        obtain ⟨v6, m7⟩ := q1
        rw [c5] at hk
        dsimp only at hk
        refine zm_c h rfl rfl rfl rfl rfl rfl (H_giveUp c5 h (fun w h => ?_))
        refine zi_l rfl rfl rfl ?_
        refine zi_a (st' := .int 3 :: _) rfl rfl rfl ?_
        refine zm_p h rfl rfl rfl rfl ⟨rfl, rfl, Or.inl rfl⟩ (fun w h => ?_)
        generalize mu1 m7 25 0 (3 : Int32) = m8 at h hk
        rw [mPut_eq] at hk
        refine zi_l rfl rfl rfl ?_
        refine zm_g h rfl rfl rfl rfl ?_
        refine zi_l rfl rfl rfl ?_
        refine zi_a rfl rfl rfl ?_
        cases hk
        exact zi_ri rfl rfl (k w h)
    · rw [if_neg c4] at hk
      refine zi_a (st' := .int (-1) :: _) rfl rfl rfl ?_
      cases hk
      exact zi_ri rfl rfl (k w h)
