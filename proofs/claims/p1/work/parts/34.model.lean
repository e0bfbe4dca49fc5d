/-! the reference decompiled: functions over its state, and that its code runs them (by wip/whole/gen4.py) -/
def mF_goRow_34 (g_go : Int32 → mS → Option (Int32 × mS)) (l1 : Int32) (μ : mS) : Option (Int32 × mS) :=
  if zix l1 500 then match g_go (μ.1 12 (l1).toNatClampNeg) μ with | none => none | some (v3, m4) => some (v3, m4) else none
theorem mT_goRow_34 {S : zS} {q : Nat} {w w0 : zW} {Post : Option Value → zW → Prop} {m0 : Nat} {μ μ2 : mS} {v : Int32} {g_go : Int32 → mS → Option (Int32 × mS)} {l1 : Int32} (hq : 0 ≤ q) (H_go : ∀ {x1 : Int32} {ν ν2 : mS} {y : Int32} {w : zW} {P : Option Value → zW → Prop}, g_go x1 ν = some (y, ν2) → mW m0 w0 ν w → (∀ w2, mW m0 w0 ν2 w2 → P (some (.int y)) w2) → zOk S q 89 0 (lv_args 0 [.ref m0, .int x1]) [] w P) (hk : mF_goRow_34 g_go l1 μ = some (v, μ2)) (h : mW m0 w0 μ w) (k : ∀ w2, mW m0 w0 μ2 w2 → Post (some (.int v)) w2) : zOk S (q + 1) 91 34 [(0, .ref m0), (1, .int l1)] [] w Post := by
  unfold mF_goRow_34 at hk
  refine zi_l rfl rfl rfl ?_
  refine zi_l rfl rfl rfl ?_
  refine zm_ga (f := 12) h rfl rfl (by decide) ?_
  refine zi_l rfl rfl rfl ?_
  by_cases q1 : zix l1 500
  case neg => rw [if_neg q1] at hk; cases hk
  rw [if_pos q1] at hk
  refine zm_ld (f := 12) h rfl (by decide) rfl q1 ?_
  cases c2 : g_go (μ.1 12 (l1).toNatClampNeg) μ with
  | none => rw [c2] at hk; cases hk
  | some q1 =>
    obtain ⟨v3, m4⟩ := q1
    rw [c2] at hk
    dsimp only at hk
    refine zm_c h rfl rfl rfl rfl rfl rfl (H_go c2 h (fun w h => ?_))
    cases hk
    exact zi_ri rfl rfl (k w h)
def mF_goRow (g_go : Int32 → mS → Option (Int32 × mS)) (a1 : Int32) (μ : mS) : Option (Int32 × mS) :=
  if zix a1 500 then if ¬ (μ.1 14 (a1).toNatClampNeg) = 0 then (mF_goRow_34 g_go a1 μ) else (if zix a1 500 then match g_go (μ.1 11 (a1).toNatClampNeg) μ with | none => none | some (v5, m6) => if v5 = (1 : Int32) then (if zix a1 500 then mPut (mu1 m6 14 (a1).toNatClampNeg (1 : Int32)) fun m9 => mF_goRow_34 g_go a1 m9 else none) else (some (v5, m6)) else none) else none
theorem mT_goRow {S : zS} {q : Nat} {w w0 : zW} {Post : Option Value → zW → Prop} {m0 : Nat} {μ μ2 : mS} {v : Int32} {g_go : Int32 → mS → Option (Int32 × mS)} {a1 : Int32} (hq : 0 ≤ q) (H_go : ∀ {x1 : Int32} {ν ν2 : mS} {y : Int32} {w : zW} {P : Option Value → zW → Prop}, g_go x1 ν = some (y, ν2) → mW m0 w0 ν w → (∀ w2, mW m0 w0 ν2 w2 → P (some (.int y)) w2) → zOk S q 89 0 (lv_args 0 [.ref m0, .int x1]) [] w P) (hk : mF_goRow g_go a1 μ = some (v, μ2)) (h : mW m0 w0 μ w) (k : ∀ w2, mW m0 w0 μ2 w2 → Post (some (.int v)) w2) : zOk S (q + 1) 91 0 (lv_args 0 [.ref m0, .int a1]) [] w Post := by
  unfold mF_goRow at hk
  refine zi_l rfl rfl rfl ?_
  refine zm_ga (f := 14) h rfl rfl (by decide) ?_
  refine zi_l rfl rfl rfl ?_
  by_cases q1 : zix a1 500
  case neg => rw [if_neg q1] at hk; cases hk
  rw [if_pos q1] at hk
  refine zm_ld (f := 14) h rfl (by decide) rfl q1 ?_
  refine zi_ifd rfl rfl rfl (tgt := 34) (by decide) (fun c2 => ?_) (fun c2 => ?_)
  · rw [if_pos c2] at hk
    exact mT_goRow_34 hq H_go hk h k
  · rw [if_neg c2] at hk
    refine zi_l rfl rfl rfl ?_
    refine zi_l rfl rfl rfl ?_
    refine zm_ga (f := 11) h rfl rfl (by decide) ?_
    refine zi_l rfl rfl rfl ?_
    by_cases q3 : zix a1 500
    case neg => rw [if_neg q3] at hk; cases hk
    rw [if_pos q3] at hk
    refine zm_ld (f := 11) h rfl (by decide) rfl q3 ?_
    cases c4 : g_go (μ.1 11 (a1).toNatClampNeg) μ with
    | none => rw [c4] at hk; cases hk
    | some q1 =>
      obtain ⟨v5, m6⟩ := q1
      rw [c4] at hk
      dsimp only at hk
      refine zm_c h rfl rfl rfl rfl rfl rfl (H_go c4 h (fun w h => ?_))
      refine zi_l rfl rfl rfl ?_
      refine zi_l rfl rfl rfl ?_
      refine zi_a (st' := .int 1 :: _) rfl rfl rfl ?_
      refine zi_ifd rfl rfl rfl (tgt := 27) (by decide) (fun c7 => ?_) (fun c7 => ?_)
      · rw [if_pos c7] at hk
        refine zi_l rfl rfl rfl ?_
        refine zm_ga (f := 14) h rfl rfl (by decide) ?_
        refine zi_l rfl rfl rfl ?_
        refine zi_a (st' := .int 1 :: _) rfl rfl rfl ?_
        by_cases q8 : zix a1 500
        case neg => rw [if_neg q8] at hk; cases hk
        rw [if_pos q8] at hk
        refine zm_st (f := 14) h rfl (by decide) rfl q8 (fun w h => ?_)
        generalize mu1 m6 14 (a1).toNatClampNeg (1 : Int32) = m9 at h hk
        rw [mPut_eq] at hk
        refine zk_sub [0, 1] rfl rfl ?_
        exact mT_goRow_34 hq H_go hk h k
      · rw [if_neg c7] at hk
        refine zi_l rfl rfl rfl ?_
        cases hk
        exact zi_ri rfl rfl (k w h)
def mF_goUntil_65 (g_reckon : Int32 → mS → Option (Int64 × mS)) (l1 : Int32) (μ : mS) : Option (Int32 × mS) :=
  if zix l1 500 then if ¬ (μ.1 14 (l1).toNatClampNeg) = (1 : Int32) then (some ((0 : Int32), μ)) else (some ((1 : Int32), μ)) else none
theorem mT_goUntil_65 {S : zS} {q : Nat} {w w0 : zW} {Post : Option Value → zW → Prop} {m0 : Nat} {μ μ2 : mS} {v : Int32} {g_reckon : Int32 → mS → Option (Int64 × mS)} {l1 : Int32} (hq : 3 ≤ q) (H_reckon : ∀ {x1 : Int32} {ν ν2 : mS} {y : Int64} {w : zW} {P : Option Value → zW → Prop}, g_reckon x1 ν = some (y, ν2) → mW m0 w0 ν w → (∀ w2, mW m0 w0 ν2 w2 → P (some (.long y)) w2) → zOk S q 85 0 (lv_args 0 [.ref m0, .int x1]) [] w P) (hk : mF_goUntil_65 g_reckon l1 μ = some (v, μ2)) (h : mW m0 w0 μ w) (k : ∀ w2, mW m0 w0 μ2 w2 → Post (some (.int v)) w2) : zOk S (q + 1) 92 65 [(0, .ref m0), (1, .int l1)] [] w Post := by
  unfold mF_goUntil_65 at hk
  refine zi_l rfl rfl rfl ?_
  refine zm_ga (f := 14) h rfl rfl (by decide) ?_
  refine zi_l rfl rfl rfl ?_
  by_cases q1 : zix l1 500
  case neg => rw [if_neg q1] at hk; cases hk
  rw [if_pos q1] at hk
  refine zm_ld (f := 14) h rfl (by decide) rfl q1 ?_
  refine zi_a (st' := .int 1 :: _) rfl rfl rfl ?_
  refine zi_ifd rfl rfl rfl (tgt := 79) (by decide) (fun c2 => ?_) (fun c2 => ?_)
  · rw [if_pos c2] at hk
    refine zi_a (st' := .int 0 :: _) rfl rfl rfl ?_
    cases hk
    exact zi_ri rfl rfl (k w h)
  · rw [if_neg c2] at hk
    refine zi_a (st' := .int 1 :: _) rfl rfl rfl ?_
    refine zi_go rfl rfl rfl (tgt := 80) (by decide) ?_
    cases hk
    exact zi_ri rfl rfl (k w h)
def mF_goUntil_64 (g_reckon : Int32 → mS → Option (Int64 × mS)) (l1 : Int32) (l2 : Int64) (s1 : Int32) (s2 : Int32) (μ : mS) : Option (Int32 × mS) :=
  if zix s1 500 then mPut (mu1 μ 14 (s1).toNatClampNeg s2) fun m2 => mF_goUntil_65 g_reckon l1 m2 else none
theorem mT_goUntil_64 {S : zS} {q : Nat} {w w0 : zW} {Post : Option Value → zW → Prop} {m0 : Nat} {μ μ2 : mS} {v : Int32} {g_reckon : Int32 → mS → Option (Int64 × mS)} {l1 : Int32} {l2 : Int64} {s1 : Int32} {s2 : Int32} (hq : 3 ≤ q) (H_reckon : ∀ {x1 : Int32} {ν ν2 : mS} {y : Int64} {w : zW} {P : Option Value → zW → Prop}, g_reckon x1 ν = some (y, ν2) → mW m0 w0 ν w → (∀ w2, mW m0 w0 ν2 w2 → P (some (.long y)) w2) → zOk S q 85 0 (lv_args 0 [.ref m0, .int x1]) [] w P) (hk : mF_goUntil_64 g_reckon l1 l2 s1 s2 μ = some (v, μ2)) (h : mW m0 w0 μ w) (k : ∀ w2, mW m0 w0 μ2 w2 → Post (some (.int v)) w2) : zOk S (q + 1) 92 64 [(0, .ref m0), (1, .int l1), (2, .long l2)] [.int s2, .int s1, .ref (m0 + mA 14)] w Post := by
  unfold mF_goUntil_64 at hk
  by_cases q1 : zix s1 500
  case neg => rw [if_neg q1] at hk; cases hk
  rw [if_pos q1] at hk
  refine zm_st (f := 14) h rfl (by decide) rfl q1 (fun w h => ?_)
  generalize mu1 μ 14 (s1).toNatClampNeg s2 = m2 at h hk
  rw [mPut_eq] at hk
  refine zk_sub [0, 1] rfl rfl ?_
  exact mT_goUntil_65 hq H_reckon hk h k
def mF_goUntil (g_reckon : Int32 → mS → Option (Int64 × mS)) (a1 : Int32) (μ : mS) : Option (Int32 × mS) :=
  if zix a1 500 then if ¬ (μ.1 14 (a1).toNatClampNeg) = 0 then (mF_goUntil_65 g_reckon a1 μ) else (if zix a1 500 then if (lg_cmp (μ.2 15 (a1).toNatClampNeg) (μ.2 26 0)) = 0 then (mF_goUntil_65 g_reckon a1 μ) else (if zix a1 500 then if zix (μ.1 10 (a1).toNatClampNeg) 200 then match g_reckon (μ.1 2 ((μ.1 10 (a1).toNatClampNeg)).toNatClampNeg) μ with | none => none | some (v8, m9) => match mF_isBad  m9 with | none => none | some (v11, m12) => if v11 = 0 then (if (lg_cmp v8 (0 : Int64)) = 0 then (mF_goUntil_64 g_reckon a1 v8 a1 (0 : Int32) m12) else (mF_goUntil_64 g_reckon a1 v8 a1 (1 : Int32) m12)) else (some ((2 : Int32), m12)) else none else none) else none) else none
theorem mT_goUntil {S : zS} {q : Nat} {w w0 : zW} {Post : Option Value → zW → Prop} {m0 : Nat} {μ μ2 : mS} {v : Int32} {g_reckon : Int32 → mS → Option (Int64 × mS)} {a1 : Int32} (hq : 3 ≤ q) (H_reckon : ∀ {x1 : Int32} {ν ν2 : mS} {y : Int64} {w : zW} {P : Option Value → zW → Prop}, g_reckon x1 ν = some (y, ν2) → mW m0 w0 ν w → (∀ w2, mW m0 w0 ν2 w2 → P (some (.long y)) w2) → zOk S q 85 0 (lv_args 0 [.ref m0, .int x1]) [] w P) (hk : mF_goUntil g_reckon a1 μ = some (v, μ2)) (h : mW m0 w0 μ w) (k : ∀ w2, mW m0 w0 μ2 w2 → Post (some (.int v)) w2) : zOk S (q + 1) 92 0 (lv_args 0 [.ref m0, .int a1]) [] w Post := by
  unfold mF_goUntil at hk
  refine zi_l rfl rfl rfl ?_
  refine zm_ga (f := 14) h rfl rfl (by decide) ?_
  refine zi_l rfl rfl rfl ?_
  by_cases q1 : zix a1 500
  case neg => rw [if_neg q1] at hk; cases hk
  rw [if_pos q1] at hk
  refine zm_ld (f := 14) h rfl (by decide) rfl q1 ?_
  refine zi_ifd rfl rfl rfl (tgt := 65) (by decide) (fun c2 => ?_) (fun c2 => ?_)
  · rw [if_pos c2] at hk
    exact mT_goUntil_65 hq H_reckon hk h k
  · rw [if_neg c2] at hk
    refine zi_l rfl rfl rfl ?_
    refine zm_ga (f := 15) h rfl rfl (by decide) ?_
    refine zi_l rfl rfl rfl ?_
    by_cases q3 : zix a1 500
    case neg => rw [if_neg q3] at hk; cases hk
    rw [if_pos q3] at hk
    refine zm_ll (f := 15) h rfl (by decide) rfl q3 ?_
    refine zi_l rfl rfl rfl ?_
    refine zm_gl h rfl rfl rfl rfl ?_
    refine zi_a rfl rfl rfl ?_
    refine zi_ifd rfl rfl rfl (tgt := 65) (by decide) (fun c4 => ?_) (fun c4 => ?_)
    · rw [if_pos c4] at hk
      exact mT_goUntil_65 hq H_reckon hk h k
    · rw [if_neg c4] at hk
      refine zi_l rfl rfl rfl ?_
      refine zi_l rfl rfl rfl ?_
      refine zm_ga (f := 2) h rfl rfl (by decide) ?_
      refine zi_l rfl rfl rfl ?_
      refine zm_ga (f := 10) h rfl rfl (by decide) ?_
      refine zi_l rfl rfl rfl ?_
      by_cases q5 : zix a1 500
      case neg => rw [if_neg q5] at hk; cases hk
      rw [if_pos q5] at hk
      refine zm_ld (f := 10) h rfl (by decide) rfl q5 ?_
      by_cases q6 : zix (μ.1 10 (a1).toNatClampNeg) 200
      case neg => rw [if_neg q6] at hk; cases hk
      rw [if_pos q6] at hk
      refine zm_ld (f := 2) h rfl (by decide) rfl q6 ?_
      cases c7 : g_reckon (μ.1 2 ((μ.1 10 (a1).toNatClampNeg)).toNatClampNeg) μ with
      | none => rw [c7] at hk; cases hk
      | some q1 =>
        obtain ⟨v8, m9⟩ := q1
        rw [c7] at hk
        dsimp only at hk
        refine zm_c h rfl rfl rfl rfl rfl rfl (H_reckon c7 h (fun w h => ?_))
        refine zi_l rfl rfl rfl ?_
        refine zi_l rfl rfl rfl ?_
        cases c10 : mF_isBad  m9 with
        | none => rw [c10] at hk; cases hk
        | some q1 =>
          obtain ⟨v11, m12⟩ := q1
          rw [c10] at hk
          dsimp only at hk
          refine zm_c h rfl rfl rfl rfl rfl rfl ((mT_isBad (q := 1) (Nat.le_refl _) c10 h (fun w h => ?_)).deep (by omega))
          refine zi_ifd rfl rfl rfl (tgt := 48) (by decide) (fun c13 => ?_) (fun c13 => ?_)
          · rw [if_pos c13] at hk
            refine zi_l rfl rfl rfl ?_
            refine zm_ga (f := 14) h rfl rfl (by decide) ?_
            refine zi_l rfl rfl rfl ?_
            refine zi_l rfl rfl rfl ?_
            refine zi_a (st' := .long 0 :: _) rfl rfl rfl ?_
            refine zi_a rfl rfl rfl ?_
            refine zi_ifd rfl rfl rfl (tgt := 63) (by decide) (fun c14 => ?_) (fun c14 => ?_)
            · rw [if_pos c14] at hk
              refine zi_a (st' := .int 0 :: _) rfl rfl rfl ?_
              exact mT_goUntil_64 hq H_reckon hk h k
            · rw [if_neg c14] at hk
              refine zi_a (st' := .int 1 :: _) rfl rfl rfl ?_
              refine zi_go rfl rfl rfl (tgt := 64) (by decide) ?_
              exact mT_goUntil_64 hq H_reckon hk h k
          · rw [if_neg c13] at hk
            refine zi_a (st' := .int 2 :: _) rfl rfl rfl ?_
            cases hk
            exact zi_ri rfl rfl (k w h)
def mF_goBoth_69 (g_go : Int32 → mS → Option (Int32 × mS)) (k_2 : Int32 → Int32 → mS → Option (Int32 × mS)) (l1 : Int32) (l2 : Int32) (μ : mS) : Option (Int32 × mS) :=
  k_2 l1 (l2 + Int32.ofInt 1) μ
theorem mT_goBoth_69 {S : zS} {q : Nat} {w w0 : zW} {Post : Option Value → zW → Prop} {m0 : Nat} {μ μ2 : mS} {v : Int32} {g_go : Int32 → mS → Option (Int32 × mS)} {k_2 : Int32 → Int32 → mS → Option (Int32 × mS)} {l1 : Int32} {l2 : Int32} (hq : 0 ≤ q) (H_go : ∀ {x1 : Int32} {ν ν2 : mS} {y : Int32} {w : zW} {P : Option Value → zW → Prop}, g_go x1 ν = some (y, ν2) → mW m0 w0 ν w → (∀ w2, mW m0 w0 ν2 w2 → P (some (.int y)) w2) → zOk S q 89 0 (lv_args 0 [.ref m0, .int x1]) [] w P) (H_2 : ∀ (l1 : Int32) (l2 : Int32) (ν : mS) (w : zW), k_2 l1 l2 ν = some (v, μ2) → mW m0 w0 ν w → zOk S (q + 1) 93 2 [(0, .ref m0), (1, .int l1), (2, .int l2)] [] w Post) (hk : mF_goBoth_69 g_go k_2 l1 l2 μ = some (v, μ2)) (h : mW m0 w0 μ w) (k : ∀ w2, mW m0 w0 μ2 w2 → Post (some (.int v)) w2) : zOk S (q + 1) 93 69 [(0, .ref m0), (1, .int l1), (2, .int l2)] [] w Post := by
  unfold mF_goBoth_69 at hk
  refine zi_l rfl rfl rfl ?_
  refine zi_go rfl rfl rfl (tgt := 2) (by decide) ?_
  exact H_2 _ _ _ _ hk h
def mF_goBoth_67 (g_go : Int32 → mS → Option (Int32 × mS)) (k_2 : Int32 → Int32 → mS → Option (Int32 × mS)) (l1 : Int32) (l2 : Int32) (l3 : Int32) (s1 : Int32) (s2 : Int32) (s3 : Int32) (μ : mS) : Option (Int32 × mS) :=
  if zix s1 500 then mPut (mu1 μ 14 (s1).toNatClampNeg (s2 ||| s3)) fun m2 => mF_goBoth_69 g_go k_2 l1 l2 m2 else none
theorem mT_goBoth_67 {S : zS} {q : Nat} {w w0 : zW} {Post : Option Value → zW → Prop} {m0 : Nat} {μ μ2 : mS} {v : Int32} {g_go : Int32 → mS → Option (Int32 × mS)} {k_2 : Int32 → Int32 → mS → Option (Int32 × mS)} {l1 : Int32} {l2 : Int32} {l3 : Int32} {s1 : Int32} {s2 : Int32} {s3 : Int32} (hq : 0 ≤ q) (H_go : ∀ {x1 : Int32} {ν ν2 : mS} {y : Int32} {w : zW} {P : Option Value → zW → Prop}, g_go x1 ν = some (y, ν2) → mW m0 w0 ν w → (∀ w2, mW m0 w0 ν2 w2 → P (some (.int y)) w2) → zOk S q 89 0 (lv_args 0 [.ref m0, .int x1]) [] w P) (H_2 : ∀ (l1 : Int32) (l2 : Int32) (ν : mS) (w : zW), k_2 l1 l2 ν = some (v, μ2) → mW m0 w0 ν w → zOk S (q + 1) 93 2 [(0, .ref m0), (1, .int l1), (2, .int l2)] [] w Post) (hk : mF_goBoth_67 g_go k_2 l1 l2 l3 s1 s2 s3 μ = some (v, μ2)) (h : mW m0 w0 μ w) (k : ∀ w2, mW m0 w0 μ2 w2 → Post (some (.int v)) w2) : zOk S (q + 1) 93 67 [(0, .ref m0), (1, .int l1), (2, .int l2), (3, .int l3)] [.int s3, .int s2, .int s1, .ref (m0 + mA 14)] w Post := by
  unfold mF_goBoth_67 at hk
  refine zi_a rfl rfl rfl ?_
  by_cases q1 : zix s1 500
  case neg => rw [if_neg q1] at hk; cases hk
  rw [if_pos q1] at hk
  refine zm_st (f := 14) h rfl (by decide) rfl q1 (fun w h => ?_)
  generalize mu1 μ 14 (s1).toNatClampNeg (s2 ||| s3) = m2 at h hk
  rw [mPut_eq] at hk
  refine zk_sub [0, 1, 2] rfl rfl ?_
  exact mT_goBoth_69 hq H_go H_2 hk h k
def mF_goBoth_39 (g_go : Int32 → mS → Option (Int32 × mS)) (k_2 : Int32 → Int32 → mS → Option (Int32 × mS)) (l1 : Int32) (l2 : Int32) (s1 : Int32) (μ : mS) : Option (Int32 × mS) :=
  match g_go s1 μ with | none => none | some (v2, m3) => if ¬ v2 = (2 : Int32) then (if zix l1 500 then if ¬ v2 = (1 : Int32) then (mF_goBoth_67 g_go k_2 l1 l2 v2 l1 (m3.1 14 (l1).toNatClampNeg) (0 : Int32) m3) else (mF_goBoth_67 g_go k_2 l1 l2 v2 l1 (m3.1 14 (l1).toNatClampNeg) l2 m3) else none) else (some (v2, m3))
theorem mT_goBoth_39 {S : zS} {q : Nat} {w w0 : zW} {Post : Option Value → zW → Prop} {m0 : Nat} {μ μ2 : mS} {v : Int32} {g_go : Int32 → mS → Option (Int32 × mS)} {k_2 : Int32 → Int32 → mS → Option (Int32 × mS)} {l1 : Int32} {l2 : Int32} {s1 : Int32} (hq : 0 ≤ q) (H_go : ∀ {x1 : Int32} {ν ν2 : mS} {y : Int32} {w : zW} {P : Option Value → zW → Prop}, g_go x1 ν = some (y, ν2) → mW m0 w0 ν w → (∀ w2, mW m0 w0 ν2 w2 → P (some (.int y)) w2) → zOk S q 89 0 (lv_args 0 [.ref m0, .int x1]) [] w P) (H_2 : ∀ (l1 : Int32) (l2 : Int32) (ν : mS) (w : zW), k_2 l1 l2 ν = some (v, μ2) → mW m0 w0 ν w → zOk S (q + 1) 93 2 [(0, .ref m0), (1, .int l1), (2, .int l2)] [] w Post) (hk : mF_goBoth_39 g_go k_2 l1 l2 s1 μ = some (v, μ2)) (h : mW m0 w0 μ w) (k : ∀ w2, mW m0 w0 μ2 w2 → Post (some (.int v)) w2) : zOk S (q + 1) 93 39 [(0, .ref m0), (1, .int l1), (2, .int l2)] [.int s1, .ref m0] w Post := by
  unfold mF_goBoth_39 at hk
  cases c1 : g_go s1 μ with
  | none => rw [c1] at hk; cases hk
  | some q1 =>
    obtain ⟨v2, m3⟩ := q1
    rw [c1] at hk
    dsimp only at hk
    refine zm_c h rfl rfl rfl rfl rfl rfl (H_go c1 h (fun w h => ?_))
    refine zi_l rfl rfl rfl ?_
    refine zi_l rfl rfl rfl ?_
    refine zi_a (st' := .int 2 :: _) rfl rfl rfl ?_
    refine zi_ifd rfl rfl rfl (tgt := 50) (by decide) (fun c4 => ?_) (fun c4 => ?_)
    · rw [if_pos c4] at hk
      refine zi_l rfl rfl rfl ?_
      refine zm_ga (f := 14) h rfl rfl (by decide) ?_
      refine zi_l rfl rfl rfl ?_
      refine zi_a rfl rfl rfl ?_
      by_cases q5 : zix l1 500
      case neg => rw [if_neg q5] at hk; cases hk
      rw [if_pos q5] at hk
      refine zm_ld (f := 14) h rfl (by decide) rfl q5 ?_
      refine zi_l rfl rfl rfl ?_
      refine zi_a (st' := .int 1 :: _) rfl rfl rfl ?_
      refine zi_ifd rfl rfl rfl (tgt := 66) (by decide) (fun c6 => ?_) (fun c6 => ?_)
      · rw [if_pos c6] at hk
        refine zi_a (st' := .int 0 :: _) rfl rfl rfl ?_
        exact mT_goBoth_67 hq H_go H_2 hk h k
      · rw [if_neg c6] at hk
        refine zi_l rfl rfl rfl ?_
        refine zi_go rfl rfl rfl (tgt := 67) (by decide) ?_
        exact mT_goBoth_67 hq H_go H_2 hk h k
    · rw [if_neg c4] at hk
      refine zi_l rfl rfl rfl ?_
      cases hk
      exact zi_ri rfl rfl (k w h)
def mF_goBoth_2b (g_go : Int32 → mS → Option (Int32 × mS)) (k_2 : Int32 → Int32 → mS → Option (Int32 × mS)) (l1 : Int32) (l2 : Int32) (μ : mS) : Option (Int32 × mS) :=
  if (3 : Int32) ≤ l2 then (if zix l1 500 then if ¬ (μ.1 14 (l1).toNatClampNeg) = (3 : Int32) then (some ((0 : Int32), μ)) else (some ((1 : Int32), μ)) else none) else (if zix l1 500 then if ¬ ((μ.1 14 (l1).toNatClampNeg) &&& l2) = 0 then (mF_goBoth_69 g_go k_2 l1 l2 μ) else (if ¬ l2 = (1 : Int32) then (if zix l1 500 then mF_goBoth_39 g_go k_2 l1 l2 (μ.1 12 (l1).toNatClampNeg) μ else none) else (if zix l1 500 then mF_goBoth_39 g_go k_2 l1 l2 (μ.1 11 (l1).toNatClampNeg) μ else none)) else none)
theorem mT_goBoth_2b {S : zS} {q : Nat} {w w0 : zW} {Post : Option Value → zW → Prop} {m0 : Nat} {μ μ2 : mS} {v : Int32} {g_go : Int32 → mS → Option (Int32 × mS)} {k_2 : Int32 → Int32 → mS → Option (Int32 × mS)} {l1 : Int32} {l2 : Int32} (hq : 0 ≤ q) (H_go : ∀ {x1 : Int32} {ν ν2 : mS} {y : Int32} {w : zW} {P : Option Value → zW → Prop}, g_go x1 ν = some (y, ν2) → mW m0 w0 ν w → (∀ w2, mW m0 w0 ν2 w2 → P (some (.int y)) w2) → zOk S q 89 0 (lv_args 0 [.ref m0, .int x1]) [] w P) (H_2 : ∀ (l1 : Int32) (l2 : Int32) (ν : mS) (w : zW), k_2 l1 l2 ν = some (v, μ2) → mW m0 w0 ν w → zOk S (q + 1) 93 2 [(0, .ref m0), (1, .int l1), (2, .int l2)] [] w Post) (hk : mF_goBoth_2b g_go k_2 l1 l2 μ = some (v, μ2)) (h : mW m0 w0 μ w) (k : ∀ w2, mW m0 w0 μ2 w2 → Post (some (.int v)) w2) : zOk S (q + 1) 93 2 [(0, .ref m0), (1, .int l1), (2, .int l2)] [] w Post := by
  unfold mF_goBoth_2b at hk
  refine zi_l rfl rfl rfl ?_
  refine zi_a (st' := .int 3 :: _) rfl rfl rfl ?_
  refine zi_ifd rfl rfl rfl (tgt := 75) (by decide) (fun c1 => ?_) (fun c1 => ?_)
  · rw [if_pos c1] at hk
    refine zi_l rfl rfl rfl ?_
    refine zm_ga (f := 14) h rfl rfl (by decide) ?_
    refine zi_l rfl rfl rfl ?_
    by_cases q2 : zix l1 500
    case neg => rw [if_neg q2] at hk; cases hk
    rw [if_pos q2] at hk
    refine zm_ld (f := 14) h rfl (by decide) rfl q2 ?_
    refine zi_a (st' := .int 3 :: _) rfl rfl rfl ?_
    refine zi_ifd rfl rfl rfl (tgt := 89) (by decide) (fun c3 => ?_) (fun c3 => ?_)
    · rw [if_pos c3] at hk
      refine zi_a (st' := .int 0 :: _) rfl rfl rfl ?_
      cases hk
      exact zi_ri rfl rfl (k w h)
    · rw [if_neg c3] at hk
      refine zi_a (st' := .int 1 :: _) rfl rfl rfl ?_
      refine zi_go rfl rfl rfl (tgt := 90) (by decide) ?_
      cases hk
      exact zi_ri rfl rfl (k w h)
  · rw [if_neg c1] at hk
    refine zi_l rfl rfl rfl ?_
    refine zm_ga (f := 14) h rfl rfl (by decide) ?_
    refine zi_l rfl rfl rfl ?_
    by_cases q4 : zix l1 500
    case neg => rw [if_neg q4] at hk; cases hk
    rw [if_pos q4] at hk
    refine zm_ld (f := 14) h rfl (by decide) rfl q4 ?_
    refine zi_l rfl rfl rfl ?_
    refine zi_a rfl rfl rfl ?_
    refine zi_ifd rfl rfl rfl (tgt := 69) (by decide) (fun c5 => ?_) (fun c5 => ?_)
    · rw [if_pos c5] at hk
      exact mT_goBoth_69 hq H_go H_2 hk h k
    · rw [if_neg c5] at hk
      refine zi_l rfl rfl rfl ?_
      refine zi_l rfl rfl rfl ?_
      refine zi_a (st' := .int 1 :: _) rfl rfl rfl ?_
      refine zi_ifd rfl rfl rfl (tgt := 33) (by decide) (fun c6 => ?_) (fun c6 => ?_)
      · rw [if_pos c6] at hk
        refine zi_l rfl rfl rfl ?_
        refine zm_ga (f := 12) h rfl rfl (by decide) ?_
        refine zi_l rfl rfl rfl ?_
        by_cases q7 : zix l1 500
        case neg => rw [if_neg q7] at hk; cases hk
        rw [if_pos q7] at hk
        refine zm_ld (f := 12) h rfl (by decide) rfl q7 ?_
        exact mT_goBoth_39 hq H_go H_2 hk h k
      · rw [if_neg c6] at hk
        refine zi_l rfl rfl rfl ?_
        refine zm_ga (f := 11) h rfl rfl (by decide) ?_
        refine zi_l rfl rfl rfl ?_
        by_cases q8 : zix l1 500
        case neg => rw [if_neg q8] at hk; cases hk
        rw [if_pos q8] at hk
        refine zm_ld (f := 11) h rfl (by decide) rfl q8 ?_
        refine zi_go rfl rfl rfl (tgt := 39) (by decide) ?_
        exact mT_goBoth_39 hq H_go H_2 hk h k
def mF_goBoth_2 (g_go : Int32 → mS → Option (Int32 × mS)) : Nat → Int32 → Int32 → mS → Option (Int32 × mS)
  | 0 => fun _ _ _ => none
  | n + 1 => fun l1 l2 μ => mF_goBoth_2b g_go (mF_goBoth_2 g_go n) l1 l2 μ
theorem mT_goBoth_2 {S : zS} {q : Nat} {w0 : zW} {Post : Option Value → zW → Prop} {m0 : Nat} {μ2 : mS} {v : Int32} {g_go : Int32 → mS → Option (Int32 × mS)} (hq : 0 ≤ q) (H_go : ∀ {x1 : Int32} {ν ν2 : mS} {y : Int32} {w : zW} {P : Option Value → zW → Prop}, g_go x1 ν = some (y, ν2) → mW m0 w0 ν w → (∀ w2, mW m0 w0 ν2 w2 → P (some (.int y)) w2) → zOk S q 89 0 (lv_args 0 [.ref m0, .int x1]) [] w P) (k : ∀ w2, mW m0 w0 μ2 w2 → Post (some (.int v)) w2) : ∀ (n : Nat) (l1 : Int32) (l2 : Int32) (μ : mS) (w : zW), mF_goBoth_2 g_go n l1 l2 μ = some (v, μ2) → mW m0 w0 μ w → zOk S (q + 1) 93 2 [(0, .ref m0), (1, .int l1), (2, .int l2)] [] w Post := by
  intro n
  induction n with
  | zero => intro l1 l2 μ w hk; cases hk
  | succ n ih => intro l1 l2 μ w hk h; exact mT_goBoth_2b hq H_go ih hk h k
def mF_goBoth (g_go : Int32 → mS → Option (Int32 × mS)) (a1 : Int32) (μ : mS) : Option (Int32 × mS) :=
  mF_goBoth_2 g_go 5 a1 (1 : Int32) μ
theorem mT_goBoth {S : zS} {q : Nat} {w w0 : zW} {Post : Option Value → zW → Prop} {m0 : Nat} {μ μ2 : mS} {v : Int32} {g_go : Int32 → mS → Option (Int32 × mS)} {a1 : Int32} (hq : 0 ≤ q) (H_go : ∀ {x1 : Int32} {ν ν2 : mS} {y : Int32} {w : zW} {P : Option Value → zW → Prop}, g_go x1 ν = some (y, ν2) → mW m0 w0 ν w → (∀ w2, mW m0 w0 ν2 w2 → P (some (.int y)) w2) → zOk S q 89 0 (lv_args 0 [.ref m0, .int x1]) [] w P) (hk : mF_goBoth g_go a1 μ = some (v, μ2)) (h : mW m0 w0 μ w) (k : ∀ w2, mW m0 w0 μ2 w2 → Post (some (.int v)) w2) : zOk S (q + 1) 93 0 (lv_args 0 [.ref m0, .int a1]) [] w Post := by
  unfold mF_goBoth at hk
  refine zi_a (st' := .int 1 :: _) rfl rfl rfl ?_
  refine zi_l rfl rfl rfl ?_
  exact mT_goBoth_2 hq H_go k 5 _ _ _ _ hk h
def mF_goRepeat_0b (g_go : Int32 → mS → Option (Int32 × mS)) (k_0 : Int32 → mS → Option (Int32 × mS)) (l1 : Int32) (μ : mS) : Option (Int32 × mS) :=
  if zix l1 500 then if (lg_cmp (μ.2 16 (l1).toNatClampNeg) (1 : Int64)) < 0 then (some ((1 : Int32), μ)) else (if zix l1 500 then match g_go (μ.1 11 (l1).toNatClampNeg) μ with | none => none | some (v5, m6) => if v5 = (1 : Int32) then (if zix l1 500 then if zix l1 500 then mPut (mu2 m6 16 (l1).toNatClampNeg ((m6.2 16 (l1).toNatClampNeg) - (1 : Int64))) fun m10 => if zix l1 500 then if zix (m10.1 11 (l1).toNatClampNeg) 500 then mPut (mu1 m10 13 ((m10.1 11 (l1).toNatClampNeg)).toNatClampNeg (0 : Int32)) fun m13 => k_0 l1 m13 else none else none else none else none) else (some (v5, m6)) else none) else none
theorem mT_goRepeat_0b {S : zS} {q : Nat} {w w0 : zW} {Post : Option Value → zW → Prop} {m0 : Nat} {μ μ2 : mS} {v : Int32} {g_go : Int32 → mS → Option (Int32 × mS)} {k_0 : Int32 → mS → Option (Int32 × mS)} {l1 : Int32} (hq : 0 ≤ q) (H_go : ∀ {x1 : Int32} {ν ν2 : mS} {y : Int32} {w : zW} {P : Option Value → zW → Prop}, g_go x1 ν = some (y, ν2) → mW m0 w0 ν w → (∀ w2, mW m0 w0 ν2 w2 → P (some (.int y)) w2) → zOk S q 89 0 (lv_args 0 [.ref m0, .int x1]) [] w P) (H_0 : ∀ (l1 : Int32) (ν : mS) (w : zW), k_0 l1 ν = some (v, μ2) → mW m0 w0 ν w → zOk S (q + 1) 94 0 [(0, .ref m0), (1, .int l1)] [] w Post) (hk : mF_goRepeat_0b g_go k_0 l1 μ = some (v, μ2)) (h : mW m0 w0 μ w) (k : ∀ w2, mW m0 w0 μ2 w2 → Post (some (.int v)) w2) : zOk S (q + 1) 94 0 [(0, .ref m0), (1, .int l1)] [] w Post := by
  unfold mF_goRepeat_0b at hk
  refine zi_l rfl rfl rfl ?_
  refine zm_ga (f := 16) h rfl rfl (by decide) ?_
  refine zi_l rfl rfl rfl ?_
  by_cases q1 : zix l1 500
  case neg => rw [if_neg q1] at hk; cases hk
  rw [if_pos q1] at hk
  refine zm_ll (f := 16) h rfl (by decide) rfl q1 ?_
  refine zi_a (st' := .long 1 :: _) rfl rfl rfl ?_
  refine zi_a rfl rfl rfl ?_
  refine zi_ifd rfl rfl rfl (tgt := 54) (by decide) (fun c2 => ?_) (fun c2 => ?_)
  · rw [if_pos c2] at hk
    refine zi_a (st' := .int 1 :: _) rfl rfl rfl ?_
    cases hk
    exact zi_ri rfl rfl (k w h)
  · rw [if_neg c2] at hk
    refine zi_l rfl rfl rfl ?_
    refine zi_l rfl rfl rfl ?_
    refine zm_ga (f := 11) h rfl rfl (by decide) ?_
    refine zi_l rfl rfl rfl ?_
    by_cases q3 : zix l1 500
    case neg => rw [if_neg q3] at hk; cases hk
    rw [if_pos q3] at hk
    refine zm_ld (f := 11) h rfl (by decide) rfl q3 ?_
    cases c4 : g_go (μ.1 11 (l1).toNatClampNeg) μ with
    | none => rw [c4] at hk; cases hk
    | some q1 =>
      obtain ⟨v5, m6⟩ := q1
      rw [c4] at hk
      dsimp only at hk
      refine zm_c h rfl rfl rfl rfl rfl rfl (H_go c4 h (fun w h => ?_))
      refine zi_l rfl rfl rfl ?_
      refine zi_l rfl rfl rfl ?_
      refine zi_a (st' := .int 1 :: _) rfl rfl rfl ?_
      refine zi_ifd rfl rfl rfl (tgt := 29) (by decide) (fun c7 => ?_) (fun c7 => ?_)
      · rw [if_pos c7] at hk
        refine zi_l rfl rfl rfl ?_
        refine zm_ga (f := 16) h rfl rfl (by decide) ?_
        refine zi_l rfl rfl rfl ?_
        refine zi_a rfl rfl rfl ?_
        by_cases q8 : zix l1 500
        case neg => rw [if_neg q8] at hk; cases hk
        rw [if_pos q8] at hk
        refine zm_ll (f := 16) h rfl (by decide) rfl q8 ?_
        refine zi_a (st' := .long 1 :: _) rfl rfl rfl ?_
        refine zi_a rfl rfl rfl ?_
        by_cases q9 : zix l1 500
        case neg => rw [if_neg q9] at hk; cases hk
        rw [if_pos q9] at hk
        refine zm_sl (f := 16) h rfl (by decide) rfl q9 (fun w h => ?_)
        generalize mu2 m6 16 (l1).toNatClampNeg ((m6.2 16 (l1).toNatClampNeg) - (1 : Int64)) = m10 at h hk
        rw [mPut_eq] at hk
        refine zi_l rfl rfl rfl ?_
        refine zm_ga (f := 13) h rfl rfl (by decide) ?_
        refine zi_l rfl rfl rfl ?_
        refine zm_ga (f := 11) h rfl rfl (by decide) ?_
        refine zi_l rfl rfl rfl ?_
        by_cases q11 : zix l1 500
        case neg => rw [if_neg q11] at hk; cases hk
        rw [if_pos q11] at hk
        refine zm_ld (f := 11) h rfl (by decide) rfl q11 ?_
        refine zi_a (st' := .int 0 :: _) rfl rfl rfl ?_
        by_cases q12 : zix (m10.1 11 (l1).toNatClampNeg) 500
        case neg => rw [if_neg q12] at hk; cases hk
        rw [if_pos q12] at hk
        refine zm_sz (f := 13) h rfl (by decide) rfl rfl q12 (fun w h => ?_)
        generalize mu1 m10 13 ((m10.1 11 (l1).toNatClampNeg)).toNatClampNeg (0 : Int32) = m13 at h hk
        rw [mPut_eq] at hk
        refine zi_go rfl rfl rfl (tgt := 0) (by decide) ?_
        refine zk_sub [0, 1] rfl rfl ?_
        exact H_0 _ _ _ hk h
      · rw [if_neg c7] at hk
        refine zi_l rfl rfl rfl ?_
        cases hk
        exact zi_ri rfl rfl (k w h)
def mF_goRepeat_0 (g_go : Int32 → mS → Option (Int32 × mS)) : Nat → Int32 → mS → Option (Int32 × mS)
  | 0 => fun _ _ => none
  | n + 1 => fun l1 μ => mF_goRepeat_0b g_go (mF_goRepeat_0 g_go n) l1 μ
theorem mT_goRepeat_0 {S : zS} {q : Nat} {w0 : zW} {Post : Option Value → zW → Prop} {m0 : Nat} {μ2 : mS} {v : Int32} {g_go : Int32 → mS → Option (Int32 × mS)} (hq : 0 ≤ q) (H_go : ∀ {x1 : Int32} {ν ν2 : mS} {y : Int32} {w : zW} {P : Option Value → zW → Prop}, g_go x1 ν = some (y, ν2) → mW m0 w0 ν w → (∀ w2, mW m0 w0 ν2 w2 → P (some (.int y)) w2) → zOk S q 89 0 (lv_args 0 [.ref m0, .int x1]) [] w P) (k : ∀ w2, mW m0 w0 μ2 w2 → Post (some (.int v)) w2) : ∀ (n : Nat) (l1 : Int32) (μ : mS) (w : zW), mF_goRepeat_0 g_go n l1 μ = some (v, μ2) → mW m0 w0 μ w → zOk S (q + 1) 94 0 [(0, .ref m0), (1, .int l1)] [] w Post := by
  intro n
  induction n with
  | zero => intro l1 μ w hk; cases hk
  | succ n ih => intro l1 μ w hk h; exact mT_goRepeat_0b hq H_go ih hk h k
def mF_goRepeat (g_go : Int32 → mS → Option (Int32 × mS)) (a1 : Int32) (μ : mS) : Option (Int32 × mS) :=
  mF_goRepeat_0 g_go 1100 a1 μ
theorem mT_goRepeat {S : zS} {q : Nat} {w w0 : zW} {Post : Option Value → zW → Prop} {m0 : Nat} {μ μ2 : mS} {v : Int32} {g_go : Int32 → mS → Option (Int32 × mS)} {a1 : Int32} (hq : 0 ≤ q) (H_go : ∀ {x1 : Int32} {ν ν2 : mS} {y : Int32} {w : zW} {P : Option Value → zW → Prop}, g_go x1 ν = some (y, ν2) → mW m0 w0 ν w → (∀ w2, mW m0 w0 ν2 w2 → P (some (.int y)) w2) → zOk S q 89 0 (lv_args 0 [.ref m0, .int x1]) [] w P) (hk : mF_goRepeat g_go a1 μ = some (v, μ2)) (h : mW m0 w0 μ w) (k : ∀ w2, mW m0 w0 μ2 w2 → Post (some (.int v)) w2) : zOk S (q + 1) 94 0 (lv_args 0 [.ref m0, .int a1]) [] w Post := by
  unfold mF_goRepeat at hk
  exact mT_goRepeat_0 hq H_go k 1100 _ _ _ hk h
def mF_goRamp_140 (l1 : Int32) (l2 : Int64) (l4 : Int32) (l5 : Int64) (l7 : Int64) (s1 : Int32) (s2 : Int64) (μ : mS) : Option (Int32 × mS) :=
  if zix s1 16 then mPut (mu2 μ 21 (s1).toNatClampNeg s2) fun m2 => if l4 = 0 then (some ((0 : Int32), m2)) else (some ((1 : Int32), m2)) else none
theorem mT_goRamp_140 {S : zS} {q : Nat} {w w0 : zW} {Post : Option Value → zW → Prop} {m0 : Nat} {μ μ2 : mS} {v : Int32} {l1 : Int32} {l2 : Int64} {l4 : Int32} {l5 : Int64} {l7 : Int64} {s1 : Int32} {s2 : Int64} (hq : 0 ≤ q) (hk : mF_goRamp_140 l1 l2 l4 l5 l7 s1 s2 μ = some (v, μ2)) (h : mW m0 w0 μ w) (k : ∀ w2, mW m0 w0 μ2 w2 → Post (some (.int v)) w2) : zOk S (q + 1) 95 140 [(0, .ref m0), (1, .int l1), (2, .long l2), (4, .int l4), (5, .long l5), (7, .long l7)] [.long s2, .int s1, .ref (m0 + mA 21)] w Post := by
  unfold mF_goRamp_140 at hk
  by_cases q1 : zix s1 16
  case neg => rw [if_neg q1] at hk; cases hk
  rw [if_pos q1] at hk
  refine zm_sl (f := 21) h rfl (by decide) rfl q1 (fun w h => ?_)
  generalize mu2 μ 21 (s1).toNatClampNeg s2 = m2 at h hk
  rw [mPut_eq] at hk
  refine zi_l rfl rfl rfl ?_
  refine zi_ifd rfl rfl rfl (tgt := 150) (by decide) (fun c3 => ?_) (fun c3 => ?_)
  · rw [if_pos c3] at hk
    refine zi_a (st' := .int 0 :: _) rfl rfl rfl ?_
    cases hk
    exact zi_ri rfl rfl (k w h)
  · rw [if_neg c3] at hk
    refine zi_a (st' := .int 1 :: _) rfl rfl rfl ?_
    refine zi_go rfl rfl rfl (tgt := 151) (by decide) ?_
    cases hk
    exact zi_ri rfl rfl (k w h)
def mF_goRamp_99 (l1 : Int32) (l2 : Int64) (l4 : Int32) (l5 : Int64) (l7 : Int64) (s0 : Int64) (s1 : Int64) (μ : mS) : Option (Int32 × mS) :=
  if zix l1 500 then if zix (μ.1 10 (l1).toNatClampNeg) 200 then if l4 = 0 then (if zix l1 500 then mF_goRamp_140  l1 l2 l4 l5 (s0 - s1) (μ.1 2 ((μ.1 10 (l1).toNatClampNeg)).toNatClampNeg) ((μ.2 18 (l1).toNatClampNeg) + (s0 - s1)) μ else none) else (if zix l1 500 then mF_goRamp_140  l1 l2 l4 l5 (s0 - s1) (μ.1 2 ((μ.1 10 (l1).toNatClampNeg)).toNatClampNeg) (μ.2 17 (l1).toNatClampNeg) μ else none) else none else none
theorem mT_goRamp_99 {S : zS} {q : Nat} {w w0 : zW} {Post : Option Value → zW → Prop} {m0 : Nat} {μ μ2 : mS} {v : Int32} {l1 : Int32} {l2 : Int64} {l4 : Int32} {l5 : Int64} {l7 : Int64} {s0 : Int64} {s1 : Int64} (hq : 0 ≤ q) (hk : mF_goRamp_99 l1 l2 l4 l5 l7 s0 s1 μ = some (v, μ2)) (h : mW m0 w0 μ w) (k : ∀ w2, mW m0 w0 μ2 w2 → Post (some (.int v)) w2) : zOk S (q + 1) 95 99 [(0, .ref m0), (1, .int l1), (2, .long l2), (4, .int l4), (5, .long l5), (7, .long l7)] [.long s1, .long s0] w Post := by
  unfold mF_goRamp_99 at hk
  refine zi_a rfl rfl rfl ?_
  refine zi_l rfl rfl rfl ?_
  refine zi_l rfl rfl rfl ?_
  refine zm_ga (f := 21) h rfl rfl (by decide) ?_
  refine zi_l rfl rfl rfl ?_
  refine zm_ga (f := 2) h rfl rfl (by decide) ?_
  refine zi_l rfl rfl rfl ?_
  refine zm_ga (f := 10) h rfl rfl (by decide) ?_
  refine zi_l rfl rfl rfl ?_
  by_cases q1 : zix l1 500
  case neg => rw [if_neg q1] at hk; cases hk
  rw [if_pos q1] at hk
  refine zm_ld (f := 10) h rfl (by decide) rfl q1 ?_
  by_cases q2 : zix (μ.1 10 (l1).toNatClampNeg) 200
  case neg => rw [if_neg q2] at hk; cases hk
  rw [if_pos q2] at hk
  refine zm_ld (f := 2) h rfl (by decide) rfl q2 ?_
  refine zi_l rfl rfl rfl ?_
  refine zi_ifd rfl rfl rfl (tgt := 131) (by decide) (fun c3 => ?_) (fun c3 => ?_)
  · rw [if_pos c3] at hk
    refine zi_l rfl rfl rfl ?_
    refine zm_ga (f := 18) h rfl rfl (by decide) ?_
    refine zi_l rfl rfl rfl ?_
    by_cases q4 : zix l1 500
    case neg => rw [if_neg q4] at hk; cases hk
    rw [if_pos q4] at hk
    refine zm_ll (f := 18) h rfl (by decide) rfl q4 ?_
    refine zi_l rfl rfl rfl ?_
    refine zi_a rfl rfl rfl ?_
    exact mT_goRamp_140 hq hk h k
  · rw [if_neg c3] at hk
    refine zi_l rfl rfl rfl ?_
    refine zm_ga (f := 17) h rfl rfl (by decide) ?_
    refine zi_l rfl rfl rfl ?_
    by_cases q5 : zix l1 500
    case neg => rw [if_neg q5] at hk; cases hk
    rw [if_pos q5] at hk
    refine zm_ll (f := 17) h rfl (by decide) rfl q5 ?_
    refine zi_go rfl rfl rfl (tgt := 140) (by decide) ?_
    exact mT_goRamp_140 hq hk h k
def mF_goRamp_48 (l1 : Int32) (l2 : Int64) (s0 : Int32) (μ : mS) : Option (Int32 × mS) :=
  if zix l1 500 then if zix l1 500 then if zix l1 500 then if (μ.2 16 (l1).toNatClampNeg) = 0 then none else if zix l1 500 then if (μ.2 16 (l1).toNatClampNeg) = 0 then none else if 0 ≤ (lg_cmp ((((μ.2 17 (l1).toNatClampNeg) - (μ.2 18 (l1).toNatClampNeg)) * l2) - (((μ.2 17 (l1).toNatClampNeg) - (μ.2 18 (l1).toNatClampNeg)) * l2) / (μ.2 16 (l1).toNatClampNeg) * (μ.2 16 (l1).toNatClampNeg)) (0 : Int64)) then (mF_goRamp_99  l1 l2 s0 (((μ.2 17 (l1).toNatClampNeg) - (μ.2 18 (l1).toNatClampNeg)) * l2) ((((μ.2 17 (l1).toNatClampNeg) - (μ.2 18 (l1).toNatClampNeg)) * l2) / (μ.2 16 (l1).toNatClampNeg)) ((((μ.2 17 (l1).toNatClampNeg) - (μ.2 18 (l1).toNatClampNeg)) * l2) / (μ.2 16 (l1).toNatClampNeg)) (0 : Int64) μ) else (mF_goRamp_99  l1 l2 s0 (((μ.2 17 (l1).toNatClampNeg) - (μ.2 18 (l1).toNatClampNeg)) * l2) ((((μ.2 17 (l1).toNatClampNeg) - (μ.2 18 (l1).toNatClampNeg)) * l2) / (μ.2 16 (l1).toNatClampNeg)) ((((μ.2 17 (l1).toNatClampNeg) - (μ.2 18 (l1).toNatClampNeg)) * l2) / (μ.2 16 (l1).toNatClampNeg)) (1 : Int64) μ) else none else none else none else none
theorem mT_goRamp_48 {S : zS} {q : Nat} {w w0 : zW} {Post : Option Value → zW → Prop} {m0 : Nat} {μ μ2 : mS} {v : Int32} {l1 : Int32} {l2 : Int64} {s0 : Int32} (hq : 0 ≤ q) (hk : mF_goRamp_48 l1 l2 s0 μ = some (v, μ2)) (h : mW m0 w0 μ w) (k : ∀ w2, mW m0 w0 μ2 w2 → Post (some (.int v)) w2) : zOk S (q + 1) 95 48 [(0, .ref m0), (1, .int l1), (2, .long l2)] [.int s0] w Post := by
  unfold mF_goRamp_48 at hk
  refine zi_l rfl rfl rfl ?_
  refine zi_l rfl rfl rfl ?_
  refine zm_ga (f := 17) h rfl rfl (by decide) ?_
  refine zi_l rfl rfl rfl ?_
  by_cases q1 : zix l1 500
  case neg => rw [if_neg q1] at hk; cases hk
  rw [if_pos q1] at hk
  refine zm_ll (f := 17) h rfl (by decide) rfl q1 ?_
  refine zi_l rfl rfl rfl ?_
  refine zm_ga (f := 18) h rfl rfl (by decide) ?_
  refine zi_l rfl rfl rfl ?_
  by_cases q2 : zix l1 500
  case neg => rw [if_neg q2] at hk; cases hk
  rw [if_pos q2] at hk
  refine zm_ll (f := 18) h rfl (by decide) rfl q2 ?_
  refine zi_a rfl rfl rfl ?_
  refine zi_l rfl rfl rfl ?_
  refine zi_a rfl rfl rfl ?_
  refine zi_l rfl rfl rfl ?_
  refine zi_l rfl rfl rfl ?_
  refine zi_l rfl rfl rfl ?_
  refine zm_ga (f := 16) h rfl rfl (by decide) ?_
  refine zi_l rfl rfl rfl ?_
  by_cases q3 : zix l1 500
  case neg => rw [if_neg q3] at hk; cases hk
  rw [if_pos q3] at hk
  refine zm_ll (f := 16) h rfl (by decide) rfl q3 ?_
  by_cases q4 : (μ.2 16 (l1).toNatClampNeg) = 0
  case pos => rw [if_pos q4] at hk; cases hk
  rw [if_neg q4] at hk
  refine zi_a rfl rfl (if_neg q4) ?_
  refine zi_l rfl rfl rfl ?_
  refine zi_l rfl rfl rfl ?_
  refine zi_l rfl rfl rfl ?_
  refine zi_l rfl rfl rfl ?_
  refine zm_ga (f := 16) h rfl rfl (by decide) ?_
  refine zi_l rfl rfl rfl ?_
  by_cases q5 : zix l1 500
  case neg => rw [if_neg q5] at hk; cases hk
  rw [if_pos q5] at hk
  refine zm_ll (f := 16) h rfl (by decide) rfl q5 ?_
  by_cases q6 : (μ.2 16 (l1).toNatClampNeg) = 0
  case pos => rw [if_pos q6] at hk; cases hk
  rw [if_neg q6] at hk
  refine zi_a rfl rfl (if_neg q6) ?_
  refine zi_a (st' := .long 0 :: _) rfl rfl rfl ?_
  refine zi_a rfl rfl rfl ?_
  refine zi_ifd rfl rfl rfl (tgt := 98) (by decide) (fun c7 => ?_) (fun c7 => ?_)
  · rw [if_pos c7] at hk
    refine zi_a (st' := .long 0 :: _) rfl rfl rfl ?_
    exact mT_goRamp_99 hq hk h k
  · rw [if_neg c7] at hk
    refine zi_a (st' := .long 1 :: _) rfl rfl rfl ?_
    refine zi_go rfl rfl rfl (tgt := 99) (by decide) ?_
    exact mT_goRamp_99 hq hk h k
def mF_goRamp (a1 : Int32) (μ : mS) : Option (Int32 × mS) :=
  if zix a1 500 then if zix a1 500 then if ¬ (μ.1 14 (a1).toNatClampNeg) = (1 : Int32) then (if ¬ (lg_cmp ((μ.2 26 0) - (μ.2 15 (a1).toNatClampNeg)) (0 : Int64)) = 0 then (if zix a1 500 then if (lg_cmp ((μ.2 26 0) - (μ.2 15 (a1).toNatClampNeg)) (μ.2 16 (a1).toNatClampNeg)) < 0 then (mF_goRamp_48  a1 ((μ.2 26 0) - (μ.2 15 (a1).toNatClampNeg)) (0 : Int32) μ) else (mF_goRamp_48  a1 ((μ.2 26 0) - (μ.2 15 (a1).toNatClampNeg)) (1 : Int32) μ) else none) else (some ((0 : Int32), μ))) else (some ((1 : Int32), μ)) else none else none
theorem mT_goRamp {S : zS} {q : Nat} {w w0 : zW} {Post : Option Value → zW → Prop} {m0 : Nat} {μ μ2 : mS} {v : Int32} {a1 : Int32} (hq : 0 ≤ q) (hk : mF_goRamp a1 μ = some (v, μ2)) (h : mW m0 w0 μ w) (k : ∀ w2, mW m0 w0 μ2 w2 → Post (some (.int v)) w2) : zOk S (q + 1) 95 0 (lv_args 0 [.ref m0, .int a1]) [] w Post := by
  unfold mF_goRamp at hk
  refine zi_l rfl rfl rfl ?_
  refine zm_gl h rfl rfl rfl rfl ?_
  refine zi_l rfl rfl rfl ?_
  refine zm_ga (f := 15) h rfl rfl (by decide) ?_
  refine zi_l rfl rfl rfl ?_
  by_cases q1 : zix a1 500
  case neg => rw [if_neg q1] at hk; cases hk
  rw [if_pos q1] at hk
  refine zm_ll (f := 15) h rfl (by decide) rfl q1 ?_
  refine zi_a rfl rfl rfl ?_
  refine zi_l rfl rfl rfl ?_
  refine zi_l rfl rfl rfl ?_
  refine zm_ga (f := 14) h rfl rfl (by decide) ?_
  refine zi_l rfl rfl rfl ?_
  by_cases q2 : zix a1 500
  case neg => rw [if_neg q2] at hk; cases hk
  rw [if_pos q2] at hk
  refine zm_ld (f := 14) h rfl (by decide) rfl q2 ?_
  refine zi_a (st' := .int 1 :: _) rfl rfl rfl ?_
  refine zi_ifd rfl rfl rfl (tgt := 24) (by decide) (fun c3 => ?_) (fun c3 => ?_)
  · rw [if_pos c3] at hk
    refine zi_l rfl rfl rfl ?_
    refine zi_a (st' := .long 0 :: _) rfl rfl rfl ?_
    refine zi_a rfl rfl rfl ?_
    refine zi_ifd rfl rfl rfl (tgt := 32) (by decide) (fun c4 => ?_) (fun c4 => ?_)
    · rw [if_pos c4] at hk
      refine zi_l rfl rfl rfl ?_
      refine zi_l rfl rfl rfl ?_
      refine zm_ga (f := 16) h rfl rfl (by decide) ?_
      refine zi_l rfl rfl rfl ?_
      by_cases q5 : zix a1 500
      case neg => rw [if_neg q5] at hk; cases hk
      rw [if_pos q5] at hk
      refine zm_ll (f := 16) h rfl (by decide) rfl q5 ?_
      refine zi_a rfl rfl rfl ?_
      refine zi_ifd rfl rfl rfl (tgt := 47) (by decide) (fun c6 => ?_) (fun c6 => ?_)
      · rw [if_pos c6] at hk
        refine zi_a (st' := .int 0 :: _) rfl rfl rfl ?_
        exact mT_goRamp_48 hq hk h k
      · rw [if_neg c6] at hk
        refine zi_a (st' := .int 1 :: _) rfl rfl rfl ?_
        refine zi_go rfl rfl rfl (tgt := 48) (by decide) ?_
        exact mT_goRamp_48 hq hk h k
    · rw [if_neg c4] at hk
      refine zi_a (st' := .int 0 :: _) rfl rfl rfl ?_
      cases hk
      exact zi_ri rfl rfl (k w h)
  · rw [if_neg c3] at hk
    refine zi_a (st' := .int 1 :: _) rfl rfl rfl ?_
    cases hk
    exact zi_ri rfl rfl (k w h)
def mF_goClosing_60 (g_go : Int32 → mS → Option (Int32 × mS)) (l1 : Int32) (l2 : Int32) (μ : mS) : Option (Int32 × mS) :=
  some (l2, μ)
theorem mT_goClosing_60 {S : zS} {q : Nat} {w w0 : zW} {Post : Option Value → zW → Prop} {m0 : Nat} {μ μ2 : mS} {v : Int32} {g_go : Int32 → mS → Option (Int32 × mS)} {l1 : Int32} {l2 : Int32} (hq : 1 ≤ q) (H_go : ∀ {x1 : Int32} {ν ν2 : mS} {y : Int32} {w : zW} {P : Option Value → zW → Prop}, g_go x1 ν = some (y, ν2) → mW m0 w0 ν w → (∀ w2, mW m0 w0 ν2 w2 → P (some (.int y)) w2) → zOk S q 89 0 (lv_args 0 [.ref m0, .int x1]) [] w P) (hk : mF_goClosing_60 g_go l1 l2 μ = some (v, μ2)) (h : mW m0 w0 μ w) (k : ∀ w2, mW m0 w0 μ2 w2 → Post (some (.int v)) w2) : zOk S (q + 1) 96 60 [(0, .ref m0), (1, .int l1), (2, .int l2)] [] w Post := by
  unfold mF_goClosing_60 at hk
  refine zi_l rfl rfl rfl ?_
  cases hk
  exact zi_ri rfl rfl (k w h)
def mF_goClosing_34 (g_go : Int32 → mS → Option (Int32 × mS)) (l1 : Int32) (μ : mS) : Option (Int32 × mS) :=
  if zix l1 500 then match g_go (μ.1 12 (l1).toNatClampNeg) μ with | none => none | some (v3, m4) => if ¬ v3 = (1 : Int32) then (mF_goClosing_60 g_go l1 v3 m4) else (if zix l1 500 then match mF_close (m4.1 10 (l1).toNatClampNeg) m4 with | none => none | some (v8, m9) => mF_goClosing_60 g_go l1 v3 m9 else none) else none
theorem mT_goClosing_34 {S : zS} {q : Nat} {w w0 : zW} {Post : Option Value → zW → Prop} {m0 : Nat} {μ μ2 : mS} {v : Int32} {g_go : Int32 → mS → Option (Int32 × mS)} {l1 : Int32} (hq : 1 ≤ q) (H_go : ∀ {x1 : Int32} {ν ν2 : mS} {y : Int32} {w : zW} {P : Option Value → zW → Prop}, g_go x1 ν = some (y, ν2) → mW m0 w0 ν w → (∀ w2, mW m0 w0 ν2 w2 → P (some (.int y)) w2) → zOk S q 89 0 (lv_args 0 [.ref m0, .int x1]) [] w P) (hk : mF_goClosing_34 g_go l1 μ = some (v, μ2)) (h : mW m0 w0 μ w) (k : ∀ w2, mW m0 w0 μ2 w2 → Post (some (.int v)) w2) : zOk S (q + 1) 96 34 [(0, .ref m0), (1, .int l1)] [] w Post := by
  unfold mF_goClosing_34 at hk
  refine zi_l rfl rfl rfl ?_
  refine zi_l rfl rfl rfl ?_
  refine zm_ga (f := 12) h rfl rfl (by decide) ?_
  refine zi_l rfl rfl rfl ?_
  by_cases q1 : zix l1 500
  case neg => rw [if_neg q1] at hk; cases hk
  rw [if_pos q1] at hk
  refine zm_ld (f := 12) h rfl (by decide) rfl q1 ?_
  cases c2 : g_go (μ.1 12 (l1).toNatClampNeg) μ with
  | none => rw [c2] at hk; cases hk
  | some q1 =>
    obtain ⟨v3, m4⟩ := q1
    rw [c2] at hk
    dsimp only at hk
    refine zm_c h rfl rfl rfl rfl rfl rfl (H_go c2 h (fun w h => ?_))
    refine zi_l rfl rfl rfl ?_
    refine zi_l rfl rfl rfl ?_
    refine zi_a (st' := .int 1 :: _) rfl rfl rfl ?_
    refine zi_ifd rfl rfl rfl (tgt := 60) (by decide) (fun c5 => ?_) (fun c5 => ?_)
    · rw [if_pos c5] at hk
      exact mT_goClosing_60 hq H_go hk h k
    · rw [if_neg c5] at hk
      refine zi_l rfl rfl rfl ?_
      refine zi_l rfl rfl rfl ?_
      refine zm_ga (f := 10) h rfl rfl (by decide) ?_
      refine zi_l rfl rfl rfl ?_
      by_cases q6 : zix l1 500
      case neg => rw [if_neg q6] at hk; cases hk
      rw [if_pos q6] at hk
      refine zm_ld (f := 10) h rfl (by decide) rfl q6 ?_
      cases c7 : mF_close (m4.1 10 (l1).toNatClampNeg) m4 with
      | none => rw [c7] at hk; cases hk
      | some q1 =>
        obtain ⟨v8, m9⟩ := q1
        rw [c7] at hk
        dsimp only at hk
        refine zm_c h rfl rfl rfl rfl rfl rfl ((mT_close (q := 0) (Nat.le_refl _) c7 h (fun w h => ?_)).deep (by omega))
        exact mT_goClosing_60 hq H_go hk h k
def mF_goClosing (g_go : Int32 → mS → Option (Int32 × mS)) (a1 : Int32) (μ : mS) : Option (Int32 × mS) :=
  if zix a1 500 then if ¬ (μ.1 14 (a1).toNatClampNeg) = 0 then (mF_goClosing_34 g_go a1 μ) else (if zix a1 500 then match g_go (μ.1 11 (a1).toNatClampNeg) μ with | none => none | some (v5, m6) => if v5 = (1 : Int32) then (if zix a1 500 then mPut (mu1 m6 14 (a1).toNatClampNeg (1 : Int32)) fun m9 => mF_goClosing_34 g_go a1 m9 else none) else (some (v5, m6)) else none) else none
theorem mT_goClosing {S : zS} {q : Nat} {w w0 : zW} {Post : Option Value → zW → Prop} {m0 : Nat} {μ μ2 : mS} {v : Int32} {g_go : Int32 → mS → Option (Int32 × mS)} {a1 : Int32} (hq : 1 ≤ q) (H_go : ∀ {x1 : Int32} {ν ν2 : mS} {y : Int32} {w : zW} {P : Option Value → zW → Prop}, g_go x1 ν = some (y, ν2) → mW m0 w0 ν w → (∀ w2, mW m0 w0 ν2 w2 → P (some (.int y)) w2) → zOk S q 89 0 (lv_args 0 [.ref m0, .int x1]) [] w P) (hk : mF_goClosing g_go a1 μ = some (v, μ2)) (h : mW m0 w0 μ w) (k : ∀ w2, mW m0 w0 μ2 w2 → Post (some (.int v)) w2) : zOk S (q + 1) 96 0 (lv_args 0 [.ref m0, .int a1]) [] w Post := by
  unfold mF_goClosing at hk
  refine zi_l rfl rfl rfl ?_
  refine zm_ga (f := 14) h rfl rfl (by decide) ?_
  refine zi_l rfl rfl rfl ?_
  by_cases q1 : zix a1 500
  case neg => rw [if_neg q1] at hk; cases hk
  rw [if_pos q1] at hk
  refine zm_ld (f := 14) h rfl (by decide) rfl q1 ?_
  refine zi_ifd rfl rfl rfl (tgt := 34) (by decide) (fun c2 => ?_) (fun c2 => ?_)
  · rw [if_pos c2] at hk
    exact mT_goClosing_34 hq H_go hk h k
  · rw [if_neg c2] at hk
    refine zi_l rfl rfl rfl ?_
    refine zi_l rfl rfl rfl ?_
    refine zm_ga (f := 11) h rfl rfl (by decide) ?_
    refine zi_l rfl rfl rfl ?_
    by_cases q3 : zix a1 500
    case neg => rw [if_neg q3] at hk; cases hk
    rw [if_pos q3] at hk
    refine zm_ld (f := 11) h rfl (by decide) rfl q3 ?_
    cases c4 : g_go (μ.1 11 (a1).toNatClampNeg) μ with
    | none => rw [c4] at hk; cases hk
    | some q1 =>
      obtain ⟨v5, m6⟩ := q1
      rw [c4] at hk
      dsimp only at hk
      refine zm_c h rfl rfl rfl rfl rfl rfl (H_go c4 h (fun w h => ?_))
      refine zi_l rfl rfl rfl ?_
      refine zi_l rfl rfl rfl ?_
      refine zi_a (st' := .int 1 :: _) rfl rfl rfl ?_
      refine zi_ifd rfl rfl rfl (tgt := 27) (by decide) (fun c7 => ?_) (fun c7 => ?_)
      · rw [if_pos c7] at hk
        refine zi_l rfl rfl rfl ?_
        refine zm_ga (f := 14) h rfl rfl (by decide) ?_
        refine zi_l rfl rfl rfl ?_
        refine zi_a (st' := .int 1 :: _) rfl rfl rfl ?_
        by_cases q8 : zix a1 500
        case neg => rw [if_neg q8] at hk; cases hk
        rw [if_pos q8] at hk
        refine zm_st (f := 14) h rfl (by decide) rfl q8 (fun w h => ?_)
        generalize mu1 m6 14 (a1).toNatClampNeg (1 : Int32) = m9 at h hk
        rw [mPut_eq] at hk
        refine zk_sub [0, 1] rfl rfl ?_
        exact mT_goClosing_34 hq H_go hk h k
      · rw [if_neg c7] at hk
        refine zi_l rfl rfl rfl ?_
        cases hk
        exact zi_ri rfl rfl (k w h)
def mF_go_176 (g_reckon : Int32 → mS → Option (Int64 × mS)) (g_go : Int32 → mS → Option (Int32 × mS)) (l1 : Int32) (s1 : Int32) (μ : mS) : Option (Int32 × mS) :=
  match g_go s1 μ with | none => none | some (v2, m3) => some (v2, m3)
theorem mT_go_176 {S : zS} {q : Nat} {w w0 : zW} {Post : Option Value → zW → Prop} {m0 : Nat} {μ μ2 : mS} {v : Int32} {g_reckon : Int32 → mS → Option (Int64 × mS)} {g_go : Int32 → mS → Option (Int32 × mS)} {l1 : Int32} {s1 : Int32} (hq : 5 ≤ q) (H_reckon : ∀ {x1 : Int32} {ν ν2 : mS} {y : Int64} {w : zW} {P : Option Value → zW → Prop}, g_reckon x1 ν = some (y, ν2) → mW m0 w0 ν w → (∀ w2, mW m0 w0 ν2 w2 → P (some (.long y)) w2) → zOk S q 85 0 (lv_args 0 [.ref m0, .int x1]) [] w P) (H_go : ∀ {x1 : Int32} {ν ν2 : mS} {y : Int32} {w : zW} {P : Option Value → zW → Prop}, g_go x1 ν = some (y, ν2) → mW m0 w0 ν w → (∀ w2, mW m0 w0 ν2 w2 → P (some (.int y)) w2) → zOk S q 89 0 (lv_args 0 [.ref m0, .int x1]) [] w P) (hk : mF_go_176 g_reckon g_go l1 s1 μ = some (v, μ2)) (h : mW m0 w0 μ w) (k : ∀ w2, mW m0 w0 μ2 w2 → Post (some (.int v)) w2) : zOk S (q + 2) 89 176 [(0, .ref m0), (1, .int l1)] [.int s1, .ref m0] w Post := by
  unfold mF_go_176 at hk
  cases c1 : g_go s1 μ with
  | none => rw [c1] at hk; cases hk
  | some q1 =>
    obtain ⟨v2, m3⟩ := q1
    rw [c1] at hk
    dsimp only at hk
    refine zm_c h rfl rfl rfl rfl rfl rfl ((H_go c1 h (fun w h => ?_)).deep (by omega))
    cases hk
    exact zi_ri rfl rfl (k w h)
def mF_go_211 (g_reckon : Int32 → mS → Option (Int64 × mS)) (g_go : Int32 → mS → Option (Int32 × mS)) (l1 : Int32) (s1 : Int32) (μ : mS) : Option (Int32 × mS) :=
  match g_go s1 μ with | none => none | some (v2, m3) => some (v2, m3)
theorem mT_go_211 {S : zS} {q : Nat} {w w0 : zW} {Post : Option Value → zW → Prop} {m0 : Nat} {μ μ2 : mS} {v : Int32} {g_reckon : Int32 → mS → Option (Int64 × mS)} {g_go : Int32 → mS → Option (Int32 × mS)} {l1 : Int32} {s1 : Int32} (hq : 5 ≤ q) (H_reckon : ∀ {x1 : Int32} {ν ν2 : mS} {y : Int64} {w : zW} {P : Option Value → zW → Prop}, g_reckon x1 ν = some (y, ν2) → mW m0 w0 ν w → (∀ w2, mW m0 w0 ν2 w2 → P (some (.long y)) w2) → zOk S q 85 0 (lv_args 0 [.ref m0, .int x1]) [] w P) (H_go : ∀ {x1 : Int32} {ν ν2 : mS} {y : Int32} {w : zW} {P : Option Value → zW → Prop}, g_go x1 ν = some (y, ν2) → mW m0 w0 ν w → (∀ w2, mW m0 w0 ν2 w2 → P (some (.int y)) w2) → zOk S q 89 0 (lv_args 0 [.ref m0, .int x1]) [] w P) (hk : mF_go_211 g_reckon g_go l1 s1 μ = some (v, μ2)) (h : mW m0 w0 μ w) (k : ∀ w2, mW m0 w0 μ2 w2 → Post (some (.int v)) w2) : zOk S (q + 2) 89 211 [(0, .ref m0), (1, .int l1)] [.int s1, .ref m0] w Post := by
  unfold mF_go_211 at hk
  cases c1 : g_go s1 μ with
  | none => rw [c1] at hk; cases hk
  | some q1 =>
    obtain ⟨v2, m3⟩ := q1
    rw [c1] at hk
    dsimp only at hk
    refine zm_c h rfl rfl rfl rfl rfl rfl ((H_go c1 h (fun w h => ?_)).deep (by omega))
    cases hk
    exact zi_ri rfl rfl (k w h)
def mF_go_19 (g_reckon : Int32 → mS → Option (Int64 × mS)) (g_go : Int32 → mS → Option (Int32 × mS)) (l1 : Int32) (μ : mS) : Option (Int32 × mS) :=
  if zix l1 500 then if zix (μ.1 10 (l1).toNatClampNeg) 200 then if ((μ.1 1 ((μ.1 10 (l1).toNatClampNeg)).toNatClampNeg)).toInt < 10 ∨ 21 < ((μ.1 1 ((μ.1 10 (l1).toNatClampNeg)).toNatClampNeg)).toInt then (some ((1 : Int32), μ)) else if (μ.1 1 ((μ.1 10 (l1).toNatClampNeg)).toNatClampNeg) = 10 then (match mF_goRow g_go l1 μ with | none => none | some (v6, m7) => some (v6, m7)) else if (μ.1 1 ((μ.1 10 (l1).toNatClampNeg)).toNatClampNeg) = 11 then (some ((1 : Int32), μ)) else if (μ.1 1 ((μ.1 10 (l1).toNatClampNeg)).toNatClampNeg) = 12 then (some ((1 : Int32), μ)) else if (μ.1 1 ((μ.1 10 (l1).toNatClampNeg)).toNatClampNeg) = 13 then (if zix l1 500 then if zix l1 500 then if (lg_cmp ((μ.2 26 0) - (μ.2 15 (l1).toNatClampNeg)) (μ.2 16 (l1).toNatClampNeg)) < 0 then (some ((0 : Int32), μ)) else (some ((1 : Int32), μ)) else none else none) else if (μ.1 1 ((μ.1 10 (l1).toNatClampNeg)).toNatClampNeg) = 14 then (match mF_goUntil g_reckon l1 μ with | none => none | some (v16, m17) => some (v16, m17)) else if (μ.1 1 ((μ.1 10 (l1).toNatClampNeg)).toNatClampNeg) = 15 then (match mF_goBoth g_go l1 μ with | none => none | some (v20, m21) => some (v20, m21)) else if (μ.1 1 ((μ.1 10 (l1).toNatClampNeg)).toNatClampNeg) = 16 then (if zix l1 500 then if ¬ (μ.1 14 (l1).toNatClampNeg) = (2 : Int32) then (if zix l1 500 then if ¬ (μ.1 14 (l1).toNatClampNeg) = 0 then (if zix l1 500 then mF_go_176 g_reckon g_go l1 (μ.1 12 (l1).toNatClampNeg) μ else none) else (if zix l1 500 then mF_go_176 g_reckon g_go l1 (μ.1 11 (l1).toNatClampNeg) μ else none) else none) else (some ((1 : Int32), μ)) else none) else if (μ.1 1 ((μ.1 10 (l1).toNatClampNeg)).toNatClampNeg) = 17 then (match mF_goRepeat g_go l1 μ with | none => none | some (v31, m32) => some (v31, m32)) else if (μ.1 1 ((μ.1 10 (l1).toNatClampNeg)).toNatClampNeg) = 18 then (if zix l1 500 then if ¬ (μ.1 14 (l1).toNatClampNeg) = 0 then (if zix l1 500 then mF_go_211 g_reckon g_go l1 (μ.1 12 (l1).toNatClampNeg) μ else none) else (if zix l1 500 then mF_go_211 g_reckon g_go l1 (μ.1 11 (l1).toNatClampNeg) μ else none) else none) else if (μ.1 1 ((μ.1 10 (l1).toNatClampNeg)).toNatClampNeg) = 19 then (match mF_goRamp l1 μ with | none => none | some (v40, m41) => some (v40, m41)) else if (μ.1 1 ((μ.1 10 (l1).toNatClampNeg)).toNatClampNeg) = 20 then (if zix l1 500 then if ¬ (μ.1 14 (l1).toNatClampNeg) = (1 : Int32) then (some ((0 : Int32), μ)) else (some ((1 : Int32), μ)) else none) else if (μ.1 1 ((μ.1 10 (l1).toNatClampNeg)).toNatClampNeg) = 21 then (match mF_goClosing g_go l1 μ with | none => none | some (v47, m48) => some (v47, m48)) else none else none else none
theorem mT_go_19 {S : zS} {q : Nat} {w w0 : zW} {Post : Option Value → zW → Prop} {m0 : Nat} {μ μ2 : mS} {v : Int32} {g_reckon : Int32 → mS → Option (Int64 × mS)} {g_go : Int32 → mS → Option (Int32 × mS)} {l1 : Int32} (hq : 5 ≤ q) (H_reckon : ∀ {x1 : Int32} {ν ν2 : mS} {y : Int64} {w : zW} {P : Option Value → zW → Prop}, g_reckon x1 ν = some (y, ν2) → mW m0 w0 ν w → (∀ w2, mW m0 w0 ν2 w2 → P (some (.long y)) w2) → zOk S q 85 0 (lv_args 0 [.ref m0, .int x1]) [] w P) (H_go : ∀ {x1 : Int32} {ν ν2 : mS} {y : Int32} {w : zW} {P : Option Value → zW → Prop}, g_go x1 ν = some (y, ν2) → mW m0 w0 ν w → (∀ w2, mW m0 w0 ν2 w2 → P (some (.int y)) w2) → zOk S q 89 0 (lv_args 0 [.ref m0, .int x1]) [] w P) (hk : mF_go_19 g_reckon g_go l1 μ = some (v, μ2)) (h : mW m0 w0 μ w) (k : ∀ w2, mW m0 w0 μ2 w2 → Post (some (.int v)) w2) : zOk S (q + 2) 89 19 [(0, .ref m0), (1, .int l1)] [] w Post := by
  unfold mF_go_19 at hk
  refine zi_l rfl rfl rfl ?_
  refine zm_ga (f := 1) h rfl rfl (by decide) ?_
  refine zi_l rfl rfl rfl ?_
  refine zm_ga (f := 10) h rfl rfl (by decide) ?_
  refine zi_l rfl rfl rfl ?_
  by_cases q1 : zix l1 500
  case neg => rw [if_neg q1] at hk; cases hk
  rw [if_pos q1] at hk
  refine zm_ld (f := 10) h rfl (by decide) rfl q1 ?_
  by_cases q2 : zix (μ.1 10 (l1).toNatClampNeg) 200
  case neg => rw [if_neg q2] at hk; cases hk
  rw [if_pos q2] at hk
  refine zm_ld (f := 1) h rfl (by decide) rfl q2 ?_
  by_cases c3 : ((μ.1 1 ((μ.1 10 (l1).toNatClampNeg)).toNatClampNeg)).toInt < 10 ∨ 21 < ((μ.1 1 ((μ.1 10 (l1).toNatClampNeg)).toNatClampNeg)).toInt
  · rw [if_pos c3] at hk
    refine zi_sd rfl c3 (tgt := 243) (by decide) ?_
    refine zi_a (st' := .int 1 :: _) rfl rfl rfl ?_
    cases hk
    exact zi_ri rfl rfl (k w h)
  rw [if_neg c3] at hk
  by_cases e4 : (μ.1 1 ((μ.1 10 (l1).toNatClampNeg)).toNatClampNeg) = 10
  · rw [if_pos e4] at hk
    refine zi_si rfl c3 (off := 62) (by rw [e4]; rfl) (tgt := 92) (by decide) ?_
    refine zi_l rfl rfl rfl ?_
    refine zi_l rfl rfl rfl ?_
    cases c5 : mF_goRow g_go l1 μ with
    | none => rw [c5] at hk; cases hk
    | some q1 =>
      obtain ⟨v6, m7⟩ := q1
      rw [c5] at hk
      dsimp only at hk
      refine zm_c h rfl rfl rfl rfl rfl rfl (mT_goRow (by omega) H_go c5 h (fun w h => ?_))
      cases hk
      exact zi_ri rfl rfl (k w h)
  rw [if_neg e4] at hk
  by_cases e8 : (μ.1 1 ((μ.1 10 (l1).toNatClampNeg)).toNatClampNeg) = 11
  · rw [if_pos e8] at hk
    refine zi_si rfl c3 (off := 213) (by rw [e8]; rfl) (tgt := 243) (by decide) ?_
    refine zi_a (st' := .int 1 :: _) rfl rfl rfl ?_
    cases hk
    exact zi_ri rfl rfl (k w h)
  rw [if_neg e8] at hk
  by_cases e9 : (μ.1 1 ((μ.1 10 (l1).toNatClampNeg)).toNatClampNeg) = 12
  · rw [if_pos e9] at hk
    refine zi_si rfl c3 (off := 213) (by rw [e9]; rfl) (tgt := 243) (by decide) ?_
    refine zi_a (st' := .int 1 :: _) rfl rfl rfl ?_
    cases hk
    exact zi_ri rfl rfl (k w h)
  rw [if_neg e9] at hk
  by_cases e10 : (μ.1 1 ((μ.1 10 (l1).toNatClampNeg)).toNatClampNeg) = 13
  · rw [if_pos e10] at hk
    refine zi_si rfl c3 (off := 68) (by rw [e10]; rfl) (tgt := 98) (by decide) ?_
    refine zi_l rfl rfl rfl ?_
    refine zm_gl h rfl rfl rfl rfl ?_
    refine zi_l rfl rfl rfl ?_
    refine zm_ga (f := 15) h rfl rfl (by decide) ?_
    refine zi_l rfl rfl rfl ?_
    by_cases q11 : zix l1 500
    case neg => rw [if_neg q11] at hk; cases hk
    rw [if_pos q11] at hk
    refine zm_ll (f := 15) h rfl (by decide) rfl q11 ?_
    refine zi_a rfl rfl rfl ?_
    refine zi_l rfl rfl rfl ?_
    refine zm_ga (f := 16) h rfl rfl (by decide) ?_
    refine zi_l rfl rfl rfl ?_
    by_cases q12 : zix l1 500
    case neg => rw [if_neg q12] at hk; cases hk
    rw [if_pos q12] at hk
    refine zm_ll (f := 16) h rfl (by decide) rfl q12 ?_
    refine zi_a rfl rfl rfl ?_
    refine zi_ifd rfl rfl rfl (tgt := 123) (by decide) (fun c13 => ?_) (fun c13 => ?_)
    · rw [if_pos c13] at hk
      refine zi_a (st' := .int 0 :: _) rfl rfl rfl ?_
      cases hk
      exact zi_ri rfl rfl (k w h)
    · rw [if_neg c13] at hk
      refine zi_a (st' := .int 1 :: _) rfl rfl rfl ?_
      refine zi_go rfl rfl rfl (tgt := 124) (by decide) ?_
      cases hk
      exact zi_ri rfl rfl (k w h)
  rw [if_neg e10] at hk
  by_cases e14 : (μ.1 1 ((μ.1 10 (l1).toNatClampNeg)).toNatClampNeg) = 14
  · rw [if_pos e14] at hk
    refine zi_si rfl c3 (off := 95) (by rw [e14]; rfl) (tgt := 125) (by decide) ?_
    refine zi_l rfl rfl rfl ?_
    refine zi_l rfl rfl rfl ?_
    cases c15 : mF_goUntil g_reckon l1 μ with
    | none => rw [c15] at hk; cases hk
    | some q1 =>
      obtain ⟨v16, m17⟩ := q1
      rw [c15] at hk
      dsimp only at hk
      refine zm_c h rfl rfl rfl rfl rfl rfl (mT_goUntil (by omega) H_reckon c15 h (fun w h => ?_))
      cases hk
      exact zi_ri rfl rfl (k w h)
  rw [if_neg e14] at hk
  by_cases e18 : (μ.1 1 ((μ.1 10 (l1).toNatClampNeg)).toNatClampNeg) = 15
  · rw [if_pos e18] at hk
    refine zi_si rfl c3 (off := 101) (by rw [e18]; rfl) (tgt := 131) (by decide) ?_
    refine zi_l rfl rfl rfl ?_
    refine zi_l rfl rfl rfl ?_
    cases c19 : mF_goBoth g_go l1 μ with
    | none => rw [c19] at hk; cases hk
    | some q1 =>
      obtain ⟨v20, m21⟩ := q1
      rw [c19] at hk
      dsimp only at hk
      refine zm_c h rfl rfl rfl rfl rfl rfl (mT_goBoth (by omega) H_go c19 h (fun w h => ?_))
      cases hk
      exact zi_ri rfl rfl (k w h)
  rw [if_neg e18] at hk
  by_cases e22 : (μ.1 1 ((μ.1 10 (l1).toNatClampNeg)).toNatClampNeg) = 16
  · rw [if_pos e22] at hk
    refine zi_si rfl c3 (off := 107) (by rw [e22]; rfl) (tgt := 137) (by decide) ?_
    refine zi_l rfl rfl rfl ?_
    refine zm_ga (f := 14) h rfl rfl (by decide) ?_
    refine zi_l rfl rfl rfl ?_
    by_cases q23 : zix l1 500
    case neg => rw [if_neg q23] at hk; cases hk
    rw [if_pos q23] at hk
    refine zm_ld (f := 14) h rfl (by decide) rfl q23 ?_
    refine zi_a (st' := .int 2 :: _) rfl rfl rfl ?_
    refine zi_ifd rfl rfl rfl (tgt := 151) (by decide) (fun c24 => ?_) (fun c24 => ?_)
    · rw [if_pos c24] at hk
      refine zi_l rfl rfl rfl ?_
      refine zi_l rfl rfl rfl ?_
      refine zm_ga (f := 14) h rfl rfl (by decide) ?_
      refine zi_l rfl rfl rfl ?_
      by_cases q25 : zix l1 500
      case neg => rw [if_neg q25] at hk; cases hk
      rw [if_pos q25] at hk
      refine zm_ld (f := 14) h rfl (by decide) rfl q25 ?_
      refine zi_ifd rfl rfl rfl (tgt := 170) (by decide) (fun c26 => ?_) (fun c26 => ?_)
      · rw [if_pos c26] at hk
        refine zi_l rfl rfl rfl ?_
        refine zm_ga (f := 12) h rfl rfl (by decide) ?_
        refine zi_l rfl rfl rfl ?_
        by_cases q27 : zix l1 500
        case neg => rw [if_neg q27] at hk; cases hk
        rw [if_pos q27] at hk
        refine zm_ld (f := 12) h rfl (by decide) rfl q27 ?_
        exact mT_go_176 hq H_reckon H_go hk h k
      · rw [if_neg c26] at hk
        refine zi_l rfl rfl rfl ?_
        refine zm_ga (f := 11) h rfl rfl (by decide) ?_
        refine zi_l rfl rfl rfl ?_
        by_cases q28 : zix l1 500
        case neg => rw [if_neg q28] at hk; cases hk
        rw [if_pos q28] at hk
        refine zm_ld (f := 11) h rfl (by decide) rfl q28 ?_
        refine zi_go rfl rfl rfl (tgt := 176) (by decide) ?_
        exact mT_go_176 hq H_reckon H_go hk h k
    · rw [if_neg c24] at hk
      refine zi_a (st' := .int 1 :: _) rfl rfl rfl ?_
      refine zi_go rfl rfl rfl (tgt := 179) (by decide) ?_
      cases hk
      exact zi_ri rfl rfl (k w h)
  rw [if_neg e22] at hk
  by_cases e29 : (μ.1 1 ((μ.1 10 (l1).toNatClampNeg)).toNatClampNeg) = 17
  · rw [if_pos e29] at hk
    refine zi_si rfl c3 (off := 150) (by rw [e29]; rfl) (tgt := 180) (by decide) ?_
    refine zi_l rfl rfl rfl ?_
    refine zi_l rfl rfl rfl ?_
    cases c30 : mF_goRepeat g_go l1 μ with
    | none => rw [c30] at hk; cases hk
    | some q1 =>
      obtain ⟨v31, m32⟩ := q1
      rw [c30] at hk
      dsimp only at hk
      refine zm_c h rfl rfl rfl rfl rfl rfl (mT_goRepeat (by omega) H_go c30 h (fun w h => ?_))
      cases hk
      exact zi_ri rfl rfl (k w h)
  rw [if_neg e29] at hk
  by_cases e33 : (μ.1 1 ((μ.1 10 (l1).toNatClampNeg)).toNatClampNeg) = 18
  · rw [if_pos e33] at hk
    refine zi_si rfl c3 (off := 156) (by rw [e33]; rfl) (tgt := 186) (by decide) ?_
    refine zi_l rfl rfl rfl ?_
    refine zi_l rfl rfl rfl ?_
    refine zm_ga (f := 14) h rfl rfl (by decide) ?_
    refine zi_l rfl rfl rfl ?_
    by_cases q34 : zix l1 500
    case neg => rw [if_neg q34] at hk; cases hk
    rw [if_pos q34] at hk
    refine zm_ld (f := 14) h rfl (by decide) rfl q34 ?_
    refine zi_ifd rfl rfl rfl (tgt := 205) (by decide) (fun c35 => ?_) (fun c35 => ?_)
    · rw [if_pos c35] at hk
      refine zi_l rfl rfl rfl ?_
      refine zm_ga (f := 12) h rfl rfl (by decide) ?_
      refine zi_l rfl rfl rfl ?_
      by_cases q36 : zix l1 500
      case neg => rw [if_neg q36] at hk; cases hk
      rw [if_pos q36] at hk
      refine zm_ld (f := 12) h rfl (by decide) rfl q36 ?_
      exact mT_go_211 hq H_reckon H_go hk h k
    · rw [if_neg c35] at hk
      refine zi_l rfl rfl rfl ?_
      refine zm_ga (f := 11) h rfl rfl (by decide) ?_
      refine zi_l rfl rfl rfl ?_
      by_cases q37 : zix l1 500
      case neg => rw [if_neg q37] at hk; cases hk
      rw [if_pos q37] at hk
      refine zm_ld (f := 11) h rfl (by decide) rfl q37 ?_
      refine zi_go rfl rfl rfl (tgt := 211) (by decide) ?_
      exact mT_go_211 hq H_reckon H_go hk h k
  rw [if_neg e33] at hk
  by_cases e38 : (μ.1 1 ((μ.1 10 (l1).toNatClampNeg)).toNatClampNeg) = 19
  · rw [if_pos e38] at hk
    refine zi_si rfl c3 (off := 185) (by rw [e38]; rfl) (tgt := 215) (by decide) ?_
    refine zi_l rfl rfl rfl ?_
    refine zi_l rfl rfl rfl ?_
    cases c39 : mF_goRamp l1 μ with
    | none => rw [c39] at hk; cases hk
    | some q1 =>
      obtain ⟨v40, m41⟩ := q1
      rw [c39] at hk
      dsimp only at hk
      refine zm_c h rfl rfl rfl rfl rfl rfl ((mT_goRamp (q := 0) (Nat.le_refl _) c39 h (fun w h => ?_)).deep (by omega))
      cases hk
      exact zi_ri rfl rfl (k w h)
  rw [if_neg e38] at hk
  by_cases e42 : (μ.1 1 ((μ.1 10 (l1).toNatClampNeg)).toNatClampNeg) = 20
  · rw [if_pos e42] at hk
    refine zi_si rfl c3 (off := 191) (by rw [e42]; rfl) (tgt := 221) (by decide) ?_
    refine zi_l rfl rfl rfl ?_
    refine zm_ga (f := 14) h rfl rfl (by decide) ?_
    refine zi_l rfl rfl rfl ?_
    by_cases q43 : zix l1 500
    case neg => rw [if_neg q43] at hk; cases hk
    rw [if_pos q43] at hk
    refine zm_ld (f := 14) h rfl (by decide) rfl q43 ?_
    refine zi_a (st' := .int 1 :: _) rfl rfl rfl ?_
    refine zi_ifd rfl rfl rfl (tgt := 235) (by decide) (fun c44 => ?_) (fun c44 => ?_)
    · rw [if_pos c44] at hk
      refine zi_a (st' := .int 0 :: _) rfl rfl rfl ?_
      cases hk
      exact zi_ri rfl rfl (k w h)
    · rw [if_neg c44] at hk
      refine zi_a (st' := .int 1 :: _) rfl rfl rfl ?_
      refine zi_go rfl rfl rfl (tgt := 236) (by decide) ?_
      cases hk
      exact zi_ri rfl rfl (k w h)
  rw [if_neg e42] at hk
  by_cases e45 : (μ.1 1 ((μ.1 10 (l1).toNatClampNeg)).toNatClampNeg) = 21
  · rw [if_pos e45] at hk
    refine zi_si rfl c3 (off := 207) (by rw [e45]; rfl) (tgt := 237) (by decide) ?_
    refine zi_l rfl rfl rfl ?_
    refine zi_l rfl rfl rfl ?_
    cases c46 : mF_goClosing g_go l1 μ with
    | none => rw [c46] at hk; cases hk
    | some q1 =>
      obtain ⟨v47, m48⟩ := q1
      rw [c46] at hk
      dsimp only at hk
      refine zm_c h rfl rfl rfl rfl rfl rfl (mT_goClosing (by omega) H_go c46 h (fun w h => ?_))
      cases hk
      exact zi_ri rfl rfl (k w h)
  rw [if_neg e45] at hk
  cases hk
def mF_go (g_reckon : Int32 → mS → Option (Int64 × mS)) (g_go : Int32 → mS → Option (Int32 × mS)) (a1 : Int32) (μ : mS) : Option (Int32 × mS) :=
  if zix a1 500 then if ¬ (μ.1 13 (a1).toNatClampNeg) = 0 then (mF_go_19 g_reckon g_go a1 μ) else (match mF_begin g_reckon a1 μ with | none => none | some (v4, m5) => if ¬ v4 = 0 then (mF_go_19 g_reckon g_go a1 m5) else (some ((2 : Int32), m5))) else none
theorem mT_go {S : zS} {q : Nat} {w w0 : zW} {Post : Option Value → zW → Prop} {m0 : Nat} {μ μ2 : mS} {v : Int32} {g_reckon : Int32 → mS → Option (Int64 × mS)} {g_go : Int32 → mS → Option (Int32 × mS)} {a1 : Int32} (hq : 5 ≤ q) (H_reckon : ∀ {x1 : Int32} {ν ν2 : mS} {y : Int64} {w : zW} {P : Option Value → zW → Prop}, g_reckon x1 ν = some (y, ν2) → mW m0 w0 ν w → (∀ w2, mW m0 w0 ν2 w2 → P (some (.long y)) w2) → zOk S q 85 0 (lv_args 0 [.ref m0, .int x1]) [] w P) (H_go : ∀ {x1 : Int32} {ν ν2 : mS} {y : Int32} {w : zW} {P : Option Value → zW → Prop}, g_go x1 ν = some (y, ν2) → mW m0 w0 ν w → (∀ w2, mW m0 w0 ν2 w2 → P (some (.int y)) w2) → zOk S q 89 0 (lv_args 0 [.ref m0, .int x1]) [] w P) (hk : mF_go g_reckon g_go a1 μ = some (v, μ2)) (h : mW m0 w0 μ w) (k : ∀ w2, mW m0 w0 μ2 w2 → Post (some (.int v)) w2) : zOk S (q + 2) 89 0 (lv_args 0 [.ref m0, .int a1]) [] w Post := by
  unfold mF_go at hk
  refine zi_l rfl rfl rfl ?_
  refine zm_ga (f := 13) h rfl rfl (by decide) ?_
  refine zi_l rfl rfl rfl ?_
  by_cases q1 : zix a1 500
  case neg => rw [if_neg q1] at hk; cases hk
  rw [if_pos q1] at hk
  refine zm_lz (f := 13) h rfl (by decide) rfl q1 ?_
  refine zi_ifd rfl rfl rfl (tgt := 19) (by decide) (fun c2 => ?_) (fun c2 => ?_)
  · rw [if_pos c2] at hk
    exact mT_go_19 hq H_reckon H_go hk h k
  · rw [if_neg c2] at hk
    refine zi_l rfl rfl rfl ?_
    refine zi_l rfl rfl rfl ?_
    cases c3 : mF_begin g_reckon a1 μ with
    | none => rw [c3] at hk; cases hk
    | some q1 =>
      obtain ⟨v4, m5⟩ := q1
      rw [c3] at hk
      dsimp only at hk
      refine zm_c h rfl rfl rfl rfl rfl rfl (mT_begin (by omega) H_reckon c3 h (fun w h => ?_))
      refine zi_ifd rfl rfl rfl (tgt := 19) (by decide) (fun c6 => ?_) (fun c6 => ?_)
      · rw [if_pos c6] at hk
        exact mT_go_19 hq H_reckon H_go hk h k
      · rw [if_neg c6] at hk
        refine zi_a (st' := .int 2 :: _) rfl rfl rfl ?_
        cases hk
        exact zi_ri rfl rfl (k w h)
