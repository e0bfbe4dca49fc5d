/-! the reference decompiled: functions over its state, and that its code runs them (by wip/whole/gen4.py) -/
def mF_lay_188 (g_lay : Int32 → mS → Option (Int32 × mS)) (l1 : Int32) (l2 : Int32) (l3 : Int32) (μ : mS) : Option (Int32 × mS) :=
  some (l2, μ)
theorem mT_lay_188 {S : zS} {q : Nat} {w w0 : zW} {Post : Option Value → zW → Prop} {m0 : Nat} {μ μ2 : mS} {v : Int32} {g_lay : Int32 → mS → Option (Int32 × mS)} {l1 : Int32} {l2 : Int32} {l3 : Int32} (hq : 0 ≤ q) (H_lay : ∀ {x1 : Int32} {ν ν2 : mS} {y : Int32} {w : zW} {P : Option Value → zW → Prop}, g_lay x1 ν = some (y, ν2) → mW m0 w0 ν w → (∀ w2, mW m0 w0 ν2 w2 → P (some (.int y)) w2) → zOk S q 82 0 (lv_args 0 [.ref m0, .int x1]) [] w P) (hk : mF_lay_188 g_lay l1 l2 l3 μ = some (v, μ2)) (h : mW m0 w0 μ w) (k : ∀ w2, mW m0 w0 μ2 w2 → Post (some (.int v)) w2) : zOk S (q + 1) 82 188 [(0, .ref m0), (1, .int l1), (2, .int l2), (3, .int l3)] [] w Post := by
  unfold mF_lay_188 at hk
  refine zi_l rfl rfl rfl ?_
  cases hk
  exact zi_ri rfl rfl (k w h)
def mF_lay_68 (g_lay : Int32 → mS → Option (Int32 × mS)) (l1 : Int32) (l2 : Int32) (l3 : Int32) (μ : mS) : Option (Int32 × mS) :=
  if zix l1 200 then match g_lay (μ.1 2 (l1).toNatClampNeg) μ with | none => none | some (v3, m4) => if zix l2 500 then mPut (mu1 m4 11 (l2).toNatClampNeg v3) fun m6 => if zix l1 200 then match g_lay (m6.1 3 (l1).toNatClampNeg) m6 with | none => none | some (v9, m10) => if zix l2 500 then mPut (mu1 m10 12 (l2).toNatClampNeg v9) fun m12 => mF_lay_188 g_lay l1 l2 l3 m12 else none else none else none else none
theorem mT_lay_68 {S : zS} {q : Nat} {w w0 : zW} {Post : Option Value → zW → Prop} {m0 : Nat} {μ μ2 : mS} {v : Int32} {g_lay : Int32 → mS → Option (Int32 × mS)} {l1 : Int32} {l2 : Int32} {l3 : Int32} (hq : 0 ≤ q) (H_lay : ∀ {x1 : Int32} {ν ν2 : mS} {y : Int32} {w : zW} {P : Option Value → zW → Prop}, g_lay x1 ν = some (y, ν2) → mW m0 w0 ν w → (∀ w2, mW m0 w0 ν2 w2 → P (some (.int y)) w2) → zOk S q 82 0 (lv_args 0 [.ref m0, .int x1]) [] w P) (hk : mF_lay_68 g_lay l1 l2 l3 μ = some (v, μ2)) (h : mW m0 w0 μ w) (k : ∀ w2, mW m0 w0 μ2 w2 → Post (some (.int v)) w2) : zOk S (q + 1) 82 68 [(0, .ref m0), (1, .int l1), (2, .int l2), (3, .int l3)] [] w Post := by
  unfold mF_lay_68 at hk
  refine zi_l rfl rfl rfl ?_
  refine zi_l rfl rfl rfl ?_
  refine zm_ga (f := 2) h rfl rfl (by decide) ?_
  refine zi_l rfl rfl rfl ?_
  by_cases q1 : zix l1 200
  case neg => rw [if_neg q1] at hk; cases hk
  rw [if_pos q1] at hk
  refine zm_ld (f := 2) h rfl (by decide) rfl q1 ?_
  cases c2 : g_lay (μ.1 2 (l1).toNatClampNeg) μ with
  | none => rw [c2] at hk; cases hk
  | some q1 =>
    obtain ⟨v3, m4⟩ := q1
    rw [c2] at hk
    dsimp only at hk
    refine zm_c h rfl rfl rfl rfl rfl rfl (H_lay c2 h (fun w h => ?_))
    refine zi_l rfl rfl rfl ?_
    refine zi_l rfl rfl rfl ?_
    refine zm_ga (f := 11) h rfl rfl (by decide) ?_
    refine zi_l rfl rfl rfl ?_
    refine zi_l rfl rfl rfl ?_
    by_cases q5 : zix l2 500
    case neg => rw [if_neg q5] at hk; cases hk
    rw [if_pos q5] at hk
    refine zm_st (f := 11) h rfl (by decide) rfl q5 (fun w h => ?_)
    generalize mu1 m4 11 (l2).toNatClampNeg v3 = m6 at h hk
    rw [mPut_eq] at hk
    refine zi_l rfl rfl rfl ?_
    refine zi_l rfl rfl rfl ?_
    refine zm_ga (f := 3) h rfl rfl (by decide) ?_
    refine zi_l rfl rfl rfl ?_
    by_cases q7 : zix l1 200
    case neg => rw [if_neg q7] at hk; cases hk
    rw [if_pos q7] at hk
    refine zm_ld (f := 3) h rfl (by decide) rfl q7 ?_
    cases c8 : g_lay (m6.1 3 (l1).toNatClampNeg) m6 with
    | none => rw [c8] at hk; cases hk
    | some q1 =>
      obtain ⟨v9, m10⟩ := q1
      rw [c8] at hk
      dsimp only at hk
      refine zm_c h rfl rfl rfl rfl rfl rfl (H_lay c8 h (fun w h => ?_))
      refine zi_l rfl rfl rfl ?_
      refine zi_l rfl rfl rfl ?_
      refine zm_ga (f := 12) h rfl rfl (by decide) ?_
      refine zi_l rfl rfl rfl ?_
      refine zi_l rfl rfl rfl ?_
      by_cases q11 : zix l2 500
      case neg => rw [if_neg q11] at hk; cases hk
      rw [if_pos q11] at hk
      refine zm_st (f := 12) h rfl (by decide) rfl q11 (fun w h => ?_)
      generalize mu1 m10 12 (l2).toNatClampNeg v9 = m12 at h hk
      rw [mPut_eq] at hk
      refine zi_go rfl rfl rfl (tgt := 188) (by decide) ?_
      refine zk_sub [0, 1, 2, 3] rfl rfl ?_
      exact mT_lay_188 hq H_lay hk h k
def mF_lay_178 (g_lay : Int32 → mS → Option (Int32 × mS)) (l1 : Int32) (l2 : Int32) (l3 : Int32) (l4 : Int32) (s0 : Int32) (μ : mS) : Option (Int32 × mS) :=
  if zix l2 500 then mPut (mu1 μ 12 (l2).toNatClampNeg s0) fun m2 => mF_lay_188 g_lay l1 l2 l3 m2 else none
theorem mT_lay_178 {S : zS} {q : Nat} {w w0 : zW} {Post : Option Value → zW → Prop} {m0 : Nat} {μ μ2 : mS} {v : Int32} {g_lay : Int32 → mS → Option (Int32 × mS)} {l1 : Int32} {l2 : Int32} {l3 : Int32} {l4 : Int32} {s0 : Int32} (hq : 0 ≤ q) (H_lay : ∀ {x1 : Int32} {ν ν2 : mS} {y : Int32} {w : zW} {P : Option Value → zW → Prop}, g_lay x1 ν = some (y, ν2) → mW m0 w0 ν w → (∀ w2, mW m0 w0 ν2 w2 → P (some (.int y)) w2) → zOk S q 82 0 (lv_args 0 [.ref m0, .int x1]) [] w P) (hk : mF_lay_178 g_lay l1 l2 l3 l4 s0 μ = some (v, μ2)) (h : mW m0 w0 μ w) (k : ∀ w2, mW m0 w0 μ2 w2 → Post (some (.int v)) w2) : zOk S (q + 1) 82 178 [(0, .ref m0), (1, .int l1), (2, .int l2), (3, .int l3), (4, .int l4)] [.int s0] w Post := by
  unfold mF_lay_178 at hk
  refine zi_l rfl rfl rfl ?_
  refine zi_l rfl rfl rfl ?_
  refine zm_ga (f := 12) h rfl rfl (by decide) ?_
  refine zi_l rfl rfl rfl ?_
  refine zi_l rfl rfl rfl ?_
  by_cases q1 : zix l2 500
  case neg => rw [if_neg q1] at hk; cases hk
  rw [if_pos q1] at hk
  refine zm_st (f := 12) h rfl (by decide) rfl q1 (fun w h => ?_)
  generalize mu1 μ 12 (l2).toNatClampNeg s0 = m2 at h hk
  rw [mPut_eq] at hk
  refine zk_sub [0, 1, 2, 3] rfl rfl ?_
  exact mT_lay_188 hq H_lay hk h k
def mF_lay_177 (g_lay : Int32 → mS → Option (Int32 × mS)) (l1 : Int32) (l2 : Int32) (l3 : Int32) (l4 : Int32) (μ : mS) : Option (Int32 × mS) :=
  mF_lay_178 g_lay l1 l2 l3 l4 (-1 : Int32) μ
theorem mT_lay_177 {S : zS} {q : Nat} {w w0 : zW} {Post : Option Value → zW → Prop} {m0 : Nat} {μ μ2 : mS} {v : Int32} {g_lay : Int32 → mS → Option (Int32 × mS)} {l1 : Int32} {l2 : Int32} {l3 : Int32} {l4 : Int32} (hq : 0 ≤ q) (H_lay : ∀ {x1 : Int32} {ν ν2 : mS} {y : Int32} {w : zW} {P : Option Value → zW → Prop}, g_lay x1 ν = some (y, ν2) → mW m0 w0 ν w → (∀ w2, mW m0 w0 ν2 w2 → P (some (.int y)) w2) → zOk S q 82 0 (lv_args 0 [.ref m0, .int x1]) [] w P) (hk : mF_lay_177 g_lay l1 l2 l3 l4 μ = some (v, μ2)) (h : mW m0 w0 μ w) (k : ∀ w2, mW m0 w0 μ2 w2 → Post (some (.int v)) w2) : zOk S (q + 1) 82 177 [(0, .ref m0), (1, .int l1), (2, .int l2), (3, .int l3), (4, .int l4)] [] w Post := by
  unfold mF_lay_177 at hk
  refine zi_a (st' := .int (-1) :: _) rfl rfl rfl ?_
  exact mT_lay_178 hq H_lay hk h k
def mF_lay_129 (g_lay : Int32 → mS → Option (Int32 × mS)) (l1 : Int32) (l2 : Int32) (l3 : Int32) (μ : mS) : Option (Int32 × mS) :=
  if zix l1 200 then match g_lay (μ.1 3 (l1).toNatClampNeg) μ with | none => none | some (v3, m4) => if zix l2 500 then mPut (mu1 m4 11 (l2).toNatClampNeg v3) fun m6 => if l3 = (17 : Int32) then (mF_lay_177 g_lay l1 l2 l3 v3 m6) else (if zix l1 200 then if (m6.1 4 (l1).toNatClampNeg) < 0 then (mF_lay_177 g_lay l1 l2 l3 v3 m6) else (if zix l1 200 then match g_lay (m6.1 4 (l1).toNatClampNeg) m6 with | none => none | some (v12, m13) => mF_lay_178 g_lay l1 l2 l3 v3 v12 m13 else none) else none) else none else none
theorem mT_lay_129 {S : zS} {q : Nat} {w w0 : zW} {Post : Option Value → zW → Prop} {m0 : Nat} {μ μ2 : mS} {v : Int32} {g_lay : Int32 → mS → Option (Int32 × mS)} {l1 : Int32} {l2 : Int32} {l3 : Int32} (hq : 0 ≤ q) (H_lay : ∀ {x1 : Int32} {ν ν2 : mS} {y : Int32} {w : zW} {P : Option Value → zW → Prop}, g_lay x1 ν = some (y, ν2) → mW m0 w0 ν w → (∀ w2, mW m0 w0 ν2 w2 → P (some (.int y)) w2) → zOk S q 82 0 (lv_args 0 [.ref m0, .int x1]) [] w P) (hk : mF_lay_129 g_lay l1 l2 l3 μ = some (v, μ2)) (h : mW m0 w0 μ w) (k : ∀ w2, mW m0 w0 μ2 w2 → Post (some (.int v)) w2) : zOk S (q + 1) 82 129 [(0, .ref m0), (1, .int l1), (2, .int l2), (3, .int l3)] [] w Post := by
  unfold mF_lay_129 at hk
  refine zi_l rfl rfl rfl ?_
  refine zi_l rfl rfl rfl ?_
  refine zm_ga (f := 3) h rfl rfl (by decide) ?_
  refine zi_l rfl rfl rfl ?_
  by_cases q1 : zix l1 200
  case neg => rw [if_neg q1] at hk; cases hk
  rw [if_pos q1] at hk
  refine zm_ld (f := 3) h rfl (by decide) rfl q1 ?_
  cases c2 : g_lay (μ.1 3 (l1).toNatClampNeg) μ with
  | none => rw [c2] at hk; cases hk
  | some q1 =>
    obtain ⟨v3, m4⟩ := q1
    rw [c2] at hk
    dsimp only at hk
    refine zm_c h rfl rfl rfl rfl rfl rfl (H_lay c2 h (fun w h => ?_))
    refine zi_l rfl rfl rfl ?_
    refine zi_l rfl rfl rfl ?_
    refine zm_ga (f := 11) h rfl rfl (by decide) ?_
    refine zi_l rfl rfl rfl ?_
    refine zi_l rfl rfl rfl ?_
    by_cases q5 : zix l2 500
    case neg => rw [if_neg q5] at hk; cases hk
    rw [if_pos q5] at hk
    refine zm_st (f := 11) h rfl (by decide) rfl q5 (fun w h => ?_)
    generalize mu1 m4 11 (l2).toNatClampNeg v3 = m6 at h hk
    rw [mPut_eq] at hk
    refine zi_l rfl rfl rfl ?_
    refine zi_a (st' := .int 17 :: _) rfl rfl rfl ?_
    refine zi_ifd rfl rfl rfl (tgt := 177) (by decide) (fun c7 => ?_) (fun c7 => ?_)
    · rw [if_pos c7] at hk
      exact mT_lay_177 hq H_lay hk h k
    · rw [if_neg c7] at hk
      refine zi_l rfl rfl rfl ?_
      refine zm_ga (f := 4) h rfl rfl (by decide) ?_
      refine zi_l rfl rfl rfl ?_
      by_cases q8 : zix l1 200
      case neg => rw [if_neg q8] at hk; cases hk
      rw [if_pos q8] at hk
      refine zm_ld (f := 4) h rfl (by decide) rfl q8 ?_
      refine zi_ifd rfl rfl rfl (tgt := 177) (by decide) (fun c9 => ?_) (fun c9 => ?_)
      · rw [if_pos c9] at hk
        exact mT_lay_177 hq H_lay hk h k
      · rw [if_neg c9] at hk
        refine zi_l rfl rfl rfl ?_
        refine zi_l rfl rfl rfl ?_
        refine zm_ga (f := 4) h rfl rfl (by decide) ?_
        refine zi_l rfl rfl rfl ?_
        by_cases q10 : zix l1 200
        case neg => rw [if_neg q10] at hk; cases hk
        rw [if_pos q10] at hk
        refine zm_ld (f := 4) h rfl (by decide) rfl q10 ?_
        cases c11 : g_lay (m6.1 4 (l1).toNatClampNeg) m6 with
        | none => rw [c11] at hk; cases hk
        | some q1 =>
          obtain ⟨v12, m13⟩ := q1
          rw [c11] at hk
          dsimp only at hk
          refine zm_c h rfl rfl rfl rfl rfl rfl (H_lay c11 h (fun w h => ?_))
          refine zi_go rfl rfl rfl (tgt := 178) (by decide) ?_
          exact mT_lay_178 hq H_lay hk h k
def mF_lay (g_lay : Int32 → mS → Option (Int32 × mS)) (a1 : Int32) (μ : mS) : Option (Int32 × mS) :=
  mPut (mu1 μ 9 0 ((μ.1 9 0) + (1 : Int32))) fun m1 => if zix (μ.1 9 0) 500 then mPut (mu1 m1 10 ((μ.1 9 0)).toNatClampNeg a1) fun m3 => if zix (μ.1 9 0) 500 then mPut (mu1 m3 13 ((μ.1 9 0)).toNatClampNeg (0 : Int32)) fun m5 => if zix (μ.1 9 0) 500 then mPut (mu1 m5 11 ((μ.1 9 0)).toNatClampNeg (-1 : Int32)) fun m7 => if zix (μ.1 9 0) 500 then mPut (mu1 m7 12 ((μ.1 9 0)).toNatClampNeg (-1 : Int32)) fun m9 => if zix a1 200 then if (m9.1 1 (a1).toNatClampNeg) = (10 : Int32) then (mF_lay_68 g_lay a1 (μ.1 9 0) (m9.1 1 (a1).toNatClampNeg) m9) else (if (m9.1 1 (a1).toNatClampNeg) = (15 : Int32) then (mF_lay_68 g_lay a1 (μ.1 9 0) (m9.1 1 (a1).toNatClampNeg) m9) else (if ¬ (m9.1 1 (a1).toNatClampNeg) = (21 : Int32) then (if (m9.1 1 (a1).toNatClampNeg) = (16 : Int32) then (mF_lay_129 g_lay a1 (μ.1 9 0) (m9.1 1 (a1).toNatClampNeg) m9) else (if (m9.1 1 (a1).toNatClampNeg) = (17 : Int32) then (mF_lay_129 g_lay a1 (μ.1 9 0) (m9.1 1 (a1).toNatClampNeg) m9) else (if ¬ (m9.1 1 (a1).toNatClampNeg) = (18 : Int32) then (mF_lay_188 g_lay a1 (μ.1 9 0) (m9.1 1 (a1).toNatClampNeg) m9) else (mF_lay_129 g_lay a1 (μ.1 9 0) (m9.1 1 (a1).toNatClampNeg) m9)))) else (mF_lay_68 g_lay a1 (μ.1 9 0) (m9.1 1 (a1).toNatClampNeg) m9))) else none else none else none else none else none
theorem mT_lay {S : zS} {q : Nat} {w w0 : zW} {Post : Option Value → zW → Prop} {m0 : Nat} {μ μ2 : mS} {v : Int32} {g_lay : Int32 → mS → Option (Int32 × mS)} {a1 : Int32} (hq : 0 ≤ q) (H_lay : ∀ {x1 : Int32} {ν ν2 : mS} {y : Int32} {w : zW} {P : Option Value → zW → Prop}, g_lay x1 ν = some (y, ν2) → mW m0 w0 ν w → (∀ w2, mW m0 w0 ν2 w2 → P (some (.int y)) w2) → zOk S q 82 0 (lv_args 0 [.ref m0, .int x1]) [] w P) (hk : mF_lay g_lay a1 μ = some (v, μ2)) (h : mW m0 w0 μ w) (k : ∀ w2, mW m0 w0 μ2 w2 → Post (some (.int v)) w2) : zOk S (q + 1) 82 0 (lv_args 0 [.ref m0, .int a1]) [] w Post := by
  unfold mF_lay at hk
  refine zi_l rfl rfl rfl ?_
  refine zm_g h rfl rfl rfl rfl ?_
  refine zi_l rfl rfl rfl ?_
  refine zi_l rfl rfl rfl ?_
  refine zi_a rfl rfl rfl ?_
  refine zm_g h rfl rfl rfl rfl ?_
  refine zi_a (st' := .int 1 :: _) rfl rfl rfl ?_
  refine zi_a rfl rfl rfl ?_
  refine zm_p h rfl rfl rfl rfl ⟨rfl, rfl, Or.inl rfl⟩ (fun w h => ?_)
  generalize mu1 μ 9 0 ((μ.1 9 0) + (1 : Int32)) = m1 at h hk
  rw [mPut_eq] at hk
  refine zi_l rfl rfl rfl ?_
  refine zm_ga (f := 10) h rfl rfl (by decide) ?_
  refine zi_l rfl rfl rfl ?_
  refine zi_l rfl rfl rfl ?_
  by_cases q2 : zix (μ.1 9 0) 500
  case neg => rw [if_neg q2] at hk; cases hk
  rw [if_pos q2] at hk
  refine zm_st (f := 10) h rfl (by decide) rfl q2 (fun w h => ?_)
  generalize mu1 m1 10 ((μ.1 9 0)).toNatClampNeg a1 = m3 at h hk
  rw [mPut_eq] at hk
  refine zi_l rfl rfl rfl ?_
  refine zm_ga (f := 13) h rfl rfl (by decide) ?_
  refine zi_l rfl rfl rfl ?_
  refine zi_a (st' := .int 0 :: _) rfl rfl rfl ?_
  by_cases q4 : zix (μ.1 9 0) 500
  case neg => rw [if_neg q4] at hk; cases hk
  rw [if_pos q4] at hk
  refine zm_sz (f := 13) h rfl (by decide) rfl rfl q4 (fun w h => ?_)
  generalize mu1 m3 13 ((μ.1 9 0)).toNatClampNeg (0 : Int32) = m5 at h hk
  rw [mPut_eq] at hk
  refine zi_l rfl rfl rfl ?_
  refine zm_ga (f := 11) h rfl rfl (by decide) ?_
  refine zi_l rfl rfl rfl ?_
  refine zi_a (st' := .int (-1) :: _) rfl rfl rfl ?_
  by_cases q6 : zix (μ.1 9 0) 500
  case neg => rw [if_neg q6] at hk; cases hk
  rw [if_pos q6] at hk
  refine zm_st (f := 11) h rfl (by decide) rfl q6 (fun w h => ?_)
  generalize mu1 m5 11 ((μ.1 9 0)).toNatClampNeg (-1 : Int32) = m7 at h hk
  rw [mPut_eq] at hk
  refine zi_l rfl rfl rfl ?_
  refine zm_ga (f := 12) h rfl rfl (by decide) ?_
  refine zi_l rfl rfl rfl ?_
  refine zi_a (st' := .int (-1) :: _) rfl rfl rfl ?_
  by_cases q8 : zix (μ.1 9 0) 500
  case neg => rw [if_neg q8] at hk; cases hk
  rw [if_pos q8] at hk
  refine zm_st (f := 12) h rfl (by decide) rfl q8 (fun w h => ?_)
  generalize mu1 m7 12 ((μ.1 9 0)).toNatClampNeg (-1 : Int32) = m9 at h hk
  rw [mPut_eq] at hk
  refine zi_l rfl rfl rfl ?_
  refine zm_ga (f := 1) h rfl rfl (by decide) ?_
  refine zi_l rfl rfl rfl ?_
  by_cases q10 : zix a1 200
  case neg => rw [if_neg q10] at hk; cases hk
  rw [if_pos q10] at hk
  refine zm_ld (f := 1) h rfl (by decide) rfl q10 ?_
  refine zi_l rfl rfl rfl ?_
  refine zi_l rfl rfl rfl ?_
  refine zi_a (st' := .int 10 :: _) rfl rfl rfl ?_
  refine zi_ifd rfl rfl rfl (tgt := 68) (by decide) (fun c11 => ?_) (fun c11 => ?_)
  · rw [if_pos c11] at hk
    exact mT_lay_68 hq H_lay hk h k
  · rw [if_neg c11] at hk
    refine zi_l rfl rfl rfl ?_
    refine zi_a (st' := .int 15 :: _) rfl rfl rfl ?_
    refine zi_ifd rfl rfl rfl (tgt := 68) (by decide) (fun c12 => ?_) (fun c12 => ?_)
    · rw [if_pos c12] at hk
      exact mT_lay_68 hq H_lay hk h k
    · rw [if_neg c12] at hk
      refine zi_l rfl rfl rfl ?_
      refine zi_a (st' := .int 21 :: _) rfl rfl rfl ?_
      refine zi_ifd rfl rfl rfl (tgt := 111) (by decide) (fun c13 => ?_) (fun c13 => ?_)
      · rw [if_pos c13] at hk
        refine zi_l rfl rfl rfl ?_
        refine zi_a (st' := .int 16 :: _) rfl rfl rfl ?_
        refine zi_ifd rfl rfl rfl (tgt := 129) (by decide) (fun c14 => ?_) (fun c14 => ?_)
        · rw [if_pos c14] at hk
          exact mT_lay_129 hq H_lay hk h k
        · rw [if_neg c14] at hk
          refine zi_l rfl rfl rfl ?_
          refine zi_a (st' := .int 17 :: _) rfl rfl rfl ?_
          refine zi_ifd rfl rfl rfl (tgt := 129) (by decide) (fun c15 => ?_) (fun c15 => ?_)
          · rw [if_pos c15] at hk
            exact mT_lay_129 hq H_lay hk h k
          · rw [if_neg c15] at hk
            refine zi_l rfl rfl rfl ?_
            refine zi_a (st' := .int 18 :: _) rfl rfl rfl ?_
            refine zi_ifd rfl rfl rfl (tgt := 188) (by decide) (fun c16 => ?_) (fun c16 => ?_)
            · rw [if_pos c16] at hk
              exact mT_lay_188 hq H_lay hk h k
            · rw [if_neg c16] at hk
              exact mT_lay_129 hq H_lay hk h k
      · rw [if_neg c13] at hk
        exact mT_lay_68 hq H_lay hk h k
def mF_start_40b (g_lay : Int32 → mS → Option (Int32 × mS)) (k_40 : Int32 → Int32 → Int32 → Int32 → mS → Option (Int32 × mS)) (l1 : Int32) (l2 : Int32) (l3 : Int32) (l4 : Int32) (μ : mS) : Option (Int32 × mS) :=
  if (16 : Int32) ≤ l4 then (mPut (mu1 μ 24 0 (1 : Int32)) fun m2 => mPut (mu1 m2 25 0 (0 : Int32)) fun m3 => mPut (mu2 m3 26 0 (0 : Int64)) fun m4 => mPut (mu1 m4 30 0 (0 : Int32)) fun m5 => mPut (mu1 m5 34 0 (0 : Int32)) fun m6 => mPut (mu1 m6 28 0 (0 : Int32)) fun m7 => some ((l2 - l3), m7)) else (if zix l4 16 then mPut (mu2 μ 20 (l4).toNatClampNeg (0 : Int64)) fun m9 => if zix l4 16 then mPut (mu2 m9 21 (l4).toNatClampNeg (0 : Int64)) fun m11 => k_40 l1 l2 l3 (l4 + Int32.ofInt 1) m11 else none else none)
theorem mT_start_40b {S : zS} {q : Nat} {w w0 : zW} {Post : Option Value → zW → Prop} {m0 : Nat} {μ μ2 : mS} {v : Int32} {g_lay : Int32 → mS → Option (Int32 × mS)} {k_40 : Int32 → Int32 → Int32 → Int32 → mS → Option (Int32 × mS)} {l1 : Int32} {l2 : Int32} {l3 : Int32} {l4 : Int32} (hq : 3 ≤ q) (H_lay : ∀ {x1 : Int32} {ν ν2 : mS} {y : Int32} {w : zW} {P : Option Value → zW → Prop}, g_lay x1 ν = some (y, ν2) → mW m0 w0 ν w → (∀ w2, mW m0 w0 ν2 w2 → P (some (.int y)) w2) → zOk S q 82 0 (lv_args 0 [.ref m0, .int x1]) [] w P) (H_40 : ∀ (l1 : Int32) (l2 : Int32) (l3 : Int32) (l4 : Int32) (ν : mS) (w : zW), k_40 l1 l2 l3 l4 ν = some (v, μ2) → mW m0 w0 ν w → zOk S (q + 1) 80 40 [(0, .ref m0), (1, .int l1), (2, .int l2), (3, .int l3), (4, .int l4)] [] w Post) (hk : mF_start_40b g_lay k_40 l1 l2 l3 l4 μ = some (v, μ2)) (h : mW m0 w0 μ w) (k : ∀ w2, mW m0 w0 μ2 w2 → Post (some (.int v)) w2) : zOk S (q + 1) 80 40 [(0, .ref m0), (1, .int l1), (2, .int l2), (3, .int l3), (4, .int l4)] [] w Post := by
  unfold mF_start_40b at hk
  refine zi_l rfl rfl rfl ?_
  refine zi_a (st' := .int 16 :: _) rfl rfl rfl ?_
  refine zi_ifd rfl rfl rfl (tgt := 69) (by decide) (fun c1 => ?_) (fun c1 => ?_)
  · rw [if_pos c1] at hk
    refine zi_l rfl rfl rfl ?_
    refine zi_a (st' := .int 1 :: _) rfl rfl rfl ?_
    refine zm_p h rfl rfl rfl rfl ⟨rfl, rfl, Or.inl rfl⟩ (fun w h => ?_)
    generalize mu1 μ 24 0 (1 : Int32) = m2 at h hk
    rw [mPut_eq] at hk
    refine zi_l rfl rfl rfl ?_
    refine zi_a (st' := .int 0 :: _) rfl rfl rfl ?_
    refine zm_p h rfl rfl rfl rfl ⟨rfl, rfl, Or.inl rfl⟩ (fun w h => ?_)
    generalize mu1 m2 25 0 (0 : Int32) = m3 at h hk
    rw [mPut_eq] at hk
    refine zi_l rfl rfl rfl ?_
    refine zi_a (st' := .long 0 :: _) rfl rfl rfl ?_
    refine zm_pl h rfl rfl rfl rfl ⟨rfl, rfl, Or.inl rfl⟩ (fun w h => ?_)
    generalize mu2 m3 26 0 (0 : Int64) = m4 at h hk
    rw [mPut_eq] at hk
    refine zi_l rfl rfl rfl ?_
    refine zi_a (st' := .int 0 :: _) rfl rfl rfl ?_
    refine zm_p h rfl rfl rfl rfl ⟨rfl, rfl, Or.inl rfl⟩ (fun w h => ?_)
    generalize mu1 m4 30 0 (0 : Int32) = m5 at h hk
    rw [mPut_eq] at hk
    refine zi_l rfl rfl rfl ?_
    refine zi_a (st' := .int 0 :: _) rfl rfl rfl ?_
    refine zm_p h rfl rfl rfl rfl ⟨rfl, rfl, Or.inl rfl⟩ (fun w h => ?_)
    generalize mu1 m5 34 0 (0 : Int32) = m6 at h hk
    rw [mPut_eq] at hk
    refine zi_l rfl rfl rfl ?_
    refine zi_a (st' := .int 0 :: _) rfl rfl rfl ?_
    refine zm_p h rfl rfl rfl rfl ⟨rfl, rfl, Or.inl rfl⟩ (fun w h => ?_)
    generalize mu1 m6 28 0 (0 : Int32) = m7 at h hk
    rw [mPut_eq] at hk
    refine zi_l rfl rfl rfl ?_
    refine zi_l rfl rfl rfl ?_
    refine zi_a rfl rfl rfl ?_
    cases hk
    exact zi_ri rfl rfl (k w h)
  · rw [if_neg c1] at hk
    refine zi_l rfl rfl rfl ?_
    refine zm_ga (f := 20) h rfl rfl (by decide) ?_
    refine zi_l rfl rfl rfl ?_
    refine zi_a (st' := .long 0 :: _) rfl rfl rfl ?_
    by_cases q8 : zix l4 16
    case neg => rw [if_neg q8] at hk; cases hk
    rw [if_pos q8] at hk
    refine zm_sl (f := 20) h rfl (by decide) rfl q8 (fun w h => ?_)
    generalize mu2 μ 20 (l4).toNatClampNeg (0 : Int64) = m9 at h hk
    rw [mPut_eq] at hk
    refine zi_l rfl rfl rfl ?_
    refine zm_ga (f := 21) h rfl rfl (by decide) ?_
    refine zi_l rfl rfl rfl ?_
    refine zi_a (st' := .long 0 :: _) rfl rfl rfl ?_
    by_cases q10 : zix l4 16
    case neg => rw [if_neg q10] at hk; cases hk
    rw [if_pos q10] at hk
    refine zm_sl (f := 21) h rfl (by decide) rfl q10 (fun w h => ?_)
    generalize mu2 m9 21 (l4).toNatClampNeg (0 : Int64) = m11 at h hk
    rw [mPut_eq] at hk
    refine zi_l rfl rfl rfl ?_
    refine zi_go rfl rfl rfl (tgt := 40) (by decide) ?_
    exact H_40 _ _ _ _ _ _ hk h
def mF_start_40 (g_lay : Int32 → mS → Option (Int32 × mS)) : Nat → Int32 → Int32 → Int32 → Int32 → mS → Option (Int32 × mS)
  | 0 => fun _ _ _ _ _ => none
  | n + 1 => fun l1 l2 l3 l4 μ => mF_start_40b g_lay (mF_start_40 g_lay n) l1 l2 l3 l4 μ
theorem mT_start_40 {S : zS} {q : Nat} {w0 : zW} {Post : Option Value → zW → Prop} {m0 : Nat} {μ2 : mS} {v : Int32} {g_lay : Int32 → mS → Option (Int32 × mS)} (hq : 3 ≤ q) (H_lay : ∀ {x1 : Int32} {ν ν2 : mS} {y : Int32} {w : zW} {P : Option Value → zW → Prop}, g_lay x1 ν = some (y, ν2) → mW m0 w0 ν w → (∀ w2, mW m0 w0 ν2 w2 → P (some (.int y)) w2) → zOk S q 82 0 (lv_args 0 [.ref m0, .int x1]) [] w P) (k : ∀ w2, mW m0 w0 μ2 w2 → Post (some (.int v)) w2) : ∀ (n : Nat) (l1 : Int32) (l2 : Int32) (l3 : Int32) (l4 : Int32) (μ : mS) (w : zW), mF_start_40 g_lay n l1 l2 l3 l4 μ = some (v, μ2) → mW m0 w0 μ w → zOk S (q + 1) 80 40 [(0, .ref m0), (1, .int l1), (2, .int l2), (3, .int l3), (4, .int l4)] [] w Post := by
  intro n
  induction n with
  | zero => intro l1 l2 l3 l4 μ w hk; cases hk
  | succ n ih => intro l1 l2 l3 l4 μ w hk h; exact mT_start_40b hq H_lay ih hk h k
def mF_start (g_lay : Int32 → mS → Option (Int32 × mS)) (a1 : Int32) (μ : mS) : Option (Int32 × mS) :=
  match mF_isStatement a1 μ with | none => none | some (v2, m3) => if ¬ v2 = 0 then (match mF_counted a1 m3 with | none => none | some (v6, m7) => if v6 ≤ (500 : Int32) then (mPut (mu1 m7 9 0 (0 : Int32)) fun m9 => match g_lay a1 m9 with | none => none | some (v11, m12) => mF_start_40 g_lay 20 a1 v6 v11 (0 : Int32) m12) else (some ((-2 : Int32), m7))) else (some ((-1 : Int32), m3))
theorem mT_start {S : zS} {q : Nat} {w w0 : zW} {Post : Option Value → zW → Prop} {m0 : Nat} {μ μ2 : mS} {v : Int32} {g_lay : Int32 → mS → Option (Int32 × mS)} {a1 : Int32} (hq : 3 ≤ q) (H_lay : ∀ {x1 : Int32} {ν ν2 : mS} {y : Int32} {w : zW} {P : Option Value → zW → Prop}, g_lay x1 ν = some (y, ν2) → mW m0 w0 ν w → (∀ w2, mW m0 w0 ν2 w2 → P (some (.int y)) w2) → zOk S q 82 0 (lv_args 0 [.ref m0, .int x1]) [] w P) (hk : mF_start g_lay a1 μ = some (v, μ2)) (h : mW m0 w0 μ w) (k : ∀ w2, mW m0 w0 μ2 w2 → Post (some (.int v)) w2) : zOk S (q + 1) 80 0 (lv_args 0 [.ref m0, .int a1]) [] w Post := by
  unfold mF_start at hk
  refine zi_l rfl rfl rfl ?_
  refine zi_l rfl rfl rfl ?_
  cases c1 : mF_isStatement a1 μ with
  | none => rw [c1] at hk; cases hk
  | some q1 =>
    obtain ⟨v2, m3⟩ := q1
    rw [c1] at hk
    dsimp only at hk
    refine zm_c h rfl rfl rfl rfl rfl rfl ((mT_isStatement (q := 1) (Nat.le_refl _) c1 h (fun w h => ?_)).deep (by omega))
    refine zi_ifd rfl rfl rfl (tgt := 10) (by decide) (fun c4 => ?_) (fun c4 => ?_)
    · rw [if_pos c4] at hk
      refine zi_l rfl rfl rfl ?_
      refine zi_l rfl rfl rfl ?_
      cases c5 : mF_counted a1 m3 with
      | none => rw [c5] at hk; cases hk
      | some q1 =>
        obtain ⟨v6, m7⟩ := q1
        rw [c5] at hk
        dsimp only at hk
        refine zm_c h rfl rfl rfl rfl rfl rfl ((mT_counted (q := 0) (Nat.le_refl _) c5 h (fun w h => ?_)).deep (by omega))
        refine zi_l rfl rfl rfl ?_
        refine zi_l rfl rfl rfl ?_
        refine zi_a (st' := .int 500 :: _) rfl rfl rfl ?_
        refine zi_ifd rfl rfl rfl (tgt := 26) (by decide) (fun c8 => ?_) (fun c8 => ?_)
        · rw [if_pos c8] at hk
          refine zi_l rfl rfl rfl ?_
          refine zi_a (st' := .int 0 :: _) rfl rfl rfl ?_
          refine zm_p h rfl rfl rfl rfl ⟨rfl, rfl, Or.inl rfl⟩ (fun w h => ?_)
          generalize mu1 m7 9 0 (0 : Int32) = m9 at h hk
          rw [mPut_eq] at hk
          refine zi_l rfl rfl rfl ?_
          refine zi_l rfl rfl rfl ?_
          cases c10 : g_lay a1 m9 with
          | none => rw [c10] at hk; cases hk
          | some q1 =>
            obtain ⟨v11, m12⟩ := q1
            rw [c10] at hk
            dsimp only at hk
            refine zm_c h rfl rfl rfl rfl rfl rfl (H_lay c10 h (fun w h => ?_))
            refine zi_l rfl rfl rfl ?_
            refine zi_a (st' := .int 0 :: _) rfl rfl rfl ?_
            refine zi_l rfl rfl rfl ?_
            exact mT_start_40 hq H_lay k 20 _ _ _ _ _ _ hk h
        · rw [if_neg c8] at hk
          refine zi_a (st' := .int (-2) :: _) rfl rfl rfl ?_
          cases hk
          exact zi_ri rfl rfl (k w h)
    · rw [if_neg c4] at hk
      refine zi_a (st' := .int (-1) :: _) rfl rfl rfl ?_
      cases hk
      exact zi_ri rfl rfl (k w h)
def mF_reckon_134 (g_reckon : Int32 → mS → Option (Int64 × mS)) (l1 : Int32) (l2 : Int64) (l4 : Int64) (μ : mS) : Option (Int64 × mS) :=
  if (μ.1 29 0) < 0 then (if zix l1 200 then if ((μ.1 1 (l1).toNatClampNeg)).toInt < 0 ∨ 4 < ((μ.1 1 (l1).toNatClampNeg)).toInt then (if ¬ (lg_cmp l2 l4) = 0 then (some ((0 : Int64), μ)) else (some ((1 : Int64), μ))) else if (μ.1 1 (l1).toNatClampNeg) = 0 then (some ((l2 + l4), μ)) else if (μ.1 1 (l1).toNatClampNeg) = 1 then (some ((l2 - l4), μ)) else if (μ.1 1 (l1).toNatClampNeg) = 2 then (some ((l2 * l4), μ)) else if (μ.1 1 (l1).toNatClampNeg) = 3 then (if l4 = 0 then none else some ((l2 / l4), μ)) else if (μ.1 1 (l1).toNatClampNeg) = 4 then (if 0 ≤ (lg_cmp l2 l4) then (some ((0 : Int64), μ)) else (some ((1 : Int64), μ))) else none else none) else (some ((0 : Int64), μ))
theorem mT_reckon_134 {S : zS} {q : Nat} {w w0 : zW} {Post : Option Value → zW → Prop} {m0 : Nat} {μ μ2 : mS} {v : Int64} {g_reckon : Int32 → mS → Option (Int64 × mS)} {l1 : Int32} {l2 : Int64} {l4 : Int64} (hq : 0 ≤ q) (H_reckon : ∀ {x1 : Int32} {ν ν2 : mS} {y : Int64} {w : zW} {P : Option Value → zW → Prop}, g_reckon x1 ν = some (y, ν2) → mW m0 w0 ν w → (∀ w2, mW m0 w0 ν2 w2 → P (some (.long y)) w2) → zOk S q 85 0 (lv_args 0 [.ref m0, .int x1]) [] w P) (hk : mF_reckon_134 g_reckon l1 l2 l4 μ = some (v, μ2)) (h : mW m0 w0 μ w) (k : ∀ w2, mW m0 w0 μ2 w2 → Post (some (.long v)) w2) : zOk S (q + 1) 85 134 [(0, .ref m0), (1, .int l1), (2, .long l2), (4, .long l4)] [] w Post := by
  unfold mF_reckon_134 at hk
  refine zi_l rfl rfl rfl ?_
  refine zm_g h rfl rfl rfl rfl ?_
  refine zi_ifd rfl rfl rfl (tgt := 143) (by decide) (fun c1 => ?_) (fun c1 => ?_)
  · rw [if_pos c1] at hk
    refine zi_l rfl rfl rfl ?_
    refine zm_ga (f := 1) h rfl rfl (by decide) ?_
    refine zi_l rfl rfl rfl ?_
    by_cases q2 : zix l1 200
    case neg => rw [if_neg q2] at hk; cases hk
    rw [if_pos q2] at hk
    refine zm_ld (f := 1) h rfl (by decide) rfl q2 ?_
    by_cases c3 : ((μ.1 1 (l1).toNatClampNeg)).toInt < 0 ∨ 4 < ((μ.1 1 (l1).toNatClampNeg)).toInt
    · rw [if_pos c3] at hk
      refine zi_sd rfl c3 (tgt := 217) (by decide) ?_
      refine zi_l rfl rfl rfl ?_
      refine zi_l rfl rfl rfl ?_
      refine zi_a rfl rfl rfl ?_
      refine zi_ifd rfl rfl rfl (tgt := 228) (by decide) (fun c4 => ?_) (fun c4 => ?_)
      · rw [if_pos c4] at hk
        refine zi_a (st' := .long 0 :: _) rfl rfl rfl ?_
        cases hk
        exact zi_rl rfl rfl (k w h)
      · rw [if_neg c4] at hk
        refine zi_a (st' := .long 1 :: _) rfl rfl rfl ?_
        refine zi_go rfl rfl rfl (tgt := 229) (by decide) ?_
        cases hk
        exact zi_rl rfl rfl (k w h)
    rw [if_neg c3] at hk
    by_cases e5 : (μ.1 1 (l1).toNatClampNeg) = 0
    · rw [if_pos e5] at hk
      refine zi_si rfl c3 (off := 35) (by rw [e5]; rfl) (tgt := 184) (by decide) ?_
      refine zi_l rfl rfl rfl ?_
      refine zi_l rfl rfl rfl ?_
      refine zi_a rfl rfl rfl ?_
      cases hk
      exact zi_rl rfl rfl (k w h)
    rw [if_neg e5] at hk
    by_cases e6 : (μ.1 1 (l1).toNatClampNeg) = 1
    · rw [if_pos e6] at hk
      refine zi_si rfl c3 (off := 40) (by rw [e6]; rfl) (tgt := 189) (by decide) ?_
      refine zi_l rfl rfl rfl ?_
      refine zi_l rfl rfl rfl ?_
      refine zi_a rfl rfl rfl ?_
      cases hk
      exact zi_rl rfl rfl (k w h)
    rw [if_neg e6] at hk
    by_cases e7 : (μ.1 1 (l1).toNatClampNeg) = 2
    · rw [if_pos e7] at hk
      refine zi_si rfl c3 (off := 45) (by rw [e7]; rfl) (tgt := 194) (by decide) ?_
      refine zi_l rfl rfl rfl ?_
      refine zi_l rfl rfl rfl ?_
      refine zi_a rfl rfl rfl ?_
      cases hk
      exact zi_rl rfl rfl (k w h)
    rw [if_neg e7] at hk
    by_cases e8 : (μ.1 1 (l1).toNatClampNeg) = 3
    · rw [if_pos e8] at hk
      refine zi_si rfl c3 (off := 50) (by rw [e8]; rfl) (tgt := 199) (by decide) ?_
      refine zi_l rfl rfl rfl ?_
      refine zi_l rfl rfl rfl ?_
      by_cases q9 : l4 = 0
      case pos => rw [if_pos q9] at hk; cases hk
      rw [if_neg q9] at hk
      refine zi_a rfl rfl (if_neg q9) ?_
      cases hk
      exact zi_rl rfl rfl (k w h)
    rw [if_neg e8] at hk
    by_cases e10 : (μ.1 1 (l1).toNatClampNeg) = 4
    · rw [if_pos e10] at hk
      refine zi_si rfl c3 (off := 55) (by rw [e10]; rfl) (tgt := 204) (by decide) ?_
      refine zi_l rfl rfl rfl ?_
      refine zi_l rfl rfl rfl ?_
      refine zi_a rfl rfl rfl ?_
      refine zi_ifd rfl rfl rfl (tgt := 215) (by decide) (fun c11 => ?_) (fun c11 => ?_)
      · rw [if_pos c11] at hk
        refine zi_a (st' := .long 0 :: _) rfl rfl rfl ?_
        cases hk
        exact zi_rl rfl rfl (k w h)
      · rw [if_neg c11] at hk
        refine zi_a (st' := .long 1 :: _) rfl rfl rfl ?_
        refine zi_go rfl rfl rfl (tgt := 216) (by decide) ?_
        cases hk
        exact zi_rl rfl rfl (k w h)
    rw [if_neg e10] at hk
    cases hk
  · rw [if_neg c1] at hk
    refine zi_a (st' := .long 0 :: _) rfl rfl rfl ?_
    cases hk
    exact zi_rl rfl rfl (k w h)
def mF_reckon (g_reckon : Int32 → mS → Option (Int64 × mS)) (a1 : Int32) (μ : mS) : Option (Int64 × mS) :=
  if (μ.1 29 0) < 0 then (if zix a1 200 then if ((μ.1 1 (a1).toNatClampNeg)).toInt < 100 ∨ 103 < ((μ.1 1 (a1).toNatClampNeg)).toInt then (if zix a1 200 then match g_reckon (μ.1 2 (a1).toNatClampNeg) μ with | none => none | some (v6, m7) => if zix a1 200 then match g_reckon (m7.1 3 (a1).toNatClampNeg) m7 with | none => none | some (v10, m11) => if zix a1 200 then if ¬ (m11.1 1 (a1).toNatClampNeg) = (3 : Int32) then (mF_reckon_134 g_reckon a1 v6 v10 m11) else (if ¬ (lg_cmp v10 (0 : Int64)) = 0 then (mF_reckon_134 g_reckon a1 v6 v10 m11) else (if 0 ≤ (m11.1 29 0) then (mF_reckon_134 g_reckon a1 v6 v10 m11) else (mPut (mu1 m11 29 0 a1) fun m16 => mF_reckon_134 g_reckon a1 v6 v10 m16))) else none else none else none) else if (μ.1 1 (a1).toNatClampNeg) = 100 then (if zix a1 200 then some ((μ.2 5 (a1).toNatClampNeg), μ) else none) else if (μ.1 1 (a1).toNatClampNeg) = 101 then (if zix a1 200 then if zix ((μ.2 5 (a1).toNatClampNeg)).toInt32 16 then some ((μ.2 19 (((μ.2 5 (a1).toNatClampNeg)).toInt32).toNatClampNeg), μ) else none else none) else if (μ.1 1 (a1).toNatClampNeg) = 102 then (if zix a1 200 then if zix ((μ.2 5 (a1).toNatClampNeg)).toInt32 16 then some ((μ.2 20 (((μ.2 5 (a1).toNatClampNeg)).toInt32).toNatClampNeg), μ) else none else none) else if (μ.1 1 (a1).toNatClampNeg) = 103 then (some ((μ.2 26 0), μ)) else none else none) else (some ((0 : Int64), μ))
theorem mT_reckon {S : zS} {q : Nat} {w w0 : zW} {Post : Option Value → zW → Prop} {m0 : Nat} {μ μ2 : mS} {v : Int64} {g_reckon : Int32 → mS → Option (Int64 × mS)} {a1 : Int32} (hq : 0 ≤ q) (H_reckon : ∀ {x1 : Int32} {ν ν2 : mS} {y : Int64} {w : zW} {P : Option Value → zW → Prop}, g_reckon x1 ν = some (y, ν2) → mW m0 w0 ν w → (∀ w2, mW m0 w0 ν2 w2 → P (some (.long y)) w2) → zOk S q 85 0 (lv_args 0 [.ref m0, .int x1]) [] w P) (hk : mF_reckon g_reckon a1 μ = some (v, μ2)) (h : mW m0 w0 μ w) (k : ∀ w2, mW m0 w0 μ2 w2 → Post (some (.long v)) w2) : zOk S (q + 1) 85 0 (lv_args 0 [.ref m0, .int a1]) [] w Post := by
  unfold mF_reckon at hk
  refine zi_l rfl rfl rfl ?_
  refine zm_g h rfl rfl rfl rfl ?_
  refine zi_ifd rfl rfl rfl (tgt := 9) (by decide) (fun c1 => ?_) (fun c1 => ?_)
  · rw [if_pos c1] at hk
    refine zi_l rfl rfl rfl ?_
    refine zm_ga (f := 1) h rfl rfl (by decide) ?_
    refine zi_l rfl rfl rfl ?_
    by_cases q2 : zix a1 200
    case neg => rw [if_neg q2] at hk; cases hk
    rw [if_pos q2] at hk
    refine zm_ld (f := 1) h rfl (by decide) rfl q2 ?_
    by_cases c3 : ((μ.1 1 (a1).toNatClampNeg)).toInt < 100 ∨ 103 < ((μ.1 1 (a1).toNatClampNeg)).toInt
    · rw [if_pos c3] at hk
      refine zi_sd rfl c3 (tgt := 82) (by decide) ?_
      refine zi_l rfl rfl rfl ?_
      refine zi_l rfl rfl rfl ?_
      refine zm_ga (f := 2) h rfl rfl (by decide) ?_
      refine zi_l rfl rfl rfl ?_
      by_cases q4 : zix a1 200
      case neg => rw [if_neg q4] at hk; cases hk
      rw [if_pos q4] at hk
      refine zm_ld (f := 2) h rfl (by decide) rfl q4 ?_
      cases c5 : g_reckon (μ.1 2 (a1).toNatClampNeg) μ with
      | none => rw [c5] at hk; cases hk
      | some q1 =>
        obtain ⟨v6, m7⟩ := q1
        rw [c5] at hk
        dsimp only at hk
        refine zm_c h rfl rfl rfl rfl rfl rfl (H_reckon c5 h (fun w h => ?_))
        refine zi_l rfl rfl rfl ?_
        refine zi_l rfl rfl rfl ?_
        refine zi_l rfl rfl rfl ?_
        refine zm_ga (f := 3) h rfl rfl (by decide) ?_
        refine zi_l rfl rfl rfl ?_
        by_cases q8 : zix a1 200
        case neg => rw [if_neg q8] at hk; cases hk
        rw [if_pos q8] at hk
        refine zm_ld (f := 3) h rfl (by decide) rfl q8 ?_
        cases c9 : g_reckon (m7.1 3 (a1).toNatClampNeg) m7 with
        | none => rw [c9] at hk; cases hk
        | some q1 =>
          obtain ⟨v10, m11⟩ := q1
          rw [c9] at hk
          dsimp only at hk
          refine zm_c h rfl rfl rfl rfl rfl rfl (H_reckon c9 h (fun w h => ?_))
          refine zi_l rfl rfl rfl ?_
          refine zi_l rfl rfl rfl ?_
          refine zm_ga (f := 1) h rfl rfl (by decide) ?_
          refine zi_l rfl rfl rfl ?_
          by_cases q12 : zix a1 200
          case neg => rw [if_neg q12] at hk; cases hk
          rw [if_pos q12] at hk
          refine zm_ld (f := 1) h rfl (by decide) rfl q12 ?_
          refine zi_a (st' := .int 3 :: _) rfl rfl rfl ?_
          refine zi_ifd rfl rfl rfl (tgt := 134) (by decide) (fun c13 => ?_) (fun c13 => ?_)
          · rw [if_pos c13] at hk
            exact mT_reckon_134 hq H_reckon hk h k
          · rw [if_neg c13] at hk
            refine zi_l rfl rfl rfl ?_
            refine zi_a (st' := .long 0 :: _) rfl rfl rfl ?_
            refine zi_a rfl rfl rfl ?_
            refine zi_ifd rfl rfl rfl (tgt := 134) (by decide) (fun c14 => ?_) (fun c14 => ?_)
            · rw [if_pos c14] at hk
              exact mT_reckon_134 hq H_reckon hk h k
            · rw [if_neg c14] at hk
              refine zi_l rfl rfl rfl ?_
              refine zm_g h rfl rfl rfl rfl ?_
              refine zi_ifd rfl rfl rfl (tgt := 134) (by decide) (fun c15 => ?_) (fun c15 => ?_)
              · rw [if_pos c15] at hk
                exact mT_reckon_134 hq H_reckon hk h k
              · rw [if_neg c15] at hk
                refine zi_l rfl rfl rfl ?_
                refine zi_l rfl rfl rfl ?_
                refine zm_p h rfl rfl rfl rfl ⟨rfl, rfl, Or.inl rfl⟩ (fun w h => ?_)
                generalize mu1 m11 29 0 a1 = m16 at h hk
                rw [mPut_eq] at hk
                exact mT_reckon_134 hq H_reckon hk h k
    rw [if_neg c3] at hk
    by_cases e17 : (μ.1 1 (a1).toNatClampNeg) = 100
    · rw [if_pos e17] at hk
      refine zi_si rfl c3 (off := 29) (by rw [e17]; rfl) (tgt := 44) (by decide) ?_
      refine zi_l rfl rfl rfl ?_
      refine zm_ga (f := 5) h rfl rfl (by decide) ?_
      refine zi_l rfl rfl rfl ?_
      by_cases q18 : zix a1 200
      case neg => rw [if_neg q18] at hk; cases hk
      rw [if_pos q18] at hk
      refine zm_ll (f := 5) h rfl (by decide) rfl q18 ?_
      cases hk
      exact zi_rl rfl rfl (k w h)
    rw [if_neg e17] at hk
    by_cases e19 : (μ.1 1 (a1).toNatClampNeg) = 101
    · rw [if_pos e19] at hk
      refine zi_si rfl c3 (off := 36) (by rw [e19]; rfl) (tgt := 51) (by decide) ?_
      refine zi_l rfl rfl rfl ?_
      refine zm_ga (f := 19) h rfl rfl (by decide) ?_
      refine zi_l rfl rfl rfl ?_
      refine zm_ga (f := 5) h rfl rfl (by decide) ?_
      refine zi_l rfl rfl rfl ?_
      by_cases q20 : zix a1 200
      case neg => rw [if_neg q20] at hk; cases hk
      rw [if_pos q20] at hk
      refine zm_ll (f := 5) h rfl (by decide) rfl q20 ?_
      refine zi_a rfl rfl rfl ?_
      by_cases q21 : zix ((μ.2 5 (a1).toNatClampNeg)).toInt32 16
      case neg => rw [if_neg q21] at hk; cases hk
      rw [if_pos q21] at hk
      refine zm_ll (f := 19) h rfl (by decide) rfl q21 ?_
      cases hk
      exact zi_rl rfl rfl (k w h)
    rw [if_neg e19] at hk
    by_cases e22 : (μ.1 1 (a1).toNatClampNeg) = 102
    · rw [if_pos e22] at hk
      refine zi_si rfl c3 (off := 49) (by rw [e22]; rfl) (tgt := 64) (by decide) ?_
      refine zi_l rfl rfl rfl ?_
      refine zm_ga (f := 20) h rfl rfl (by decide) ?_
      refine zi_l rfl rfl rfl ?_
      refine zm_ga (f := 5) h rfl rfl (by decide) ?_
      refine zi_l rfl rfl rfl ?_
      by_cases q23 : zix a1 200
      case neg => rw [if_neg q23] at hk; cases hk
      rw [if_pos q23] at hk
      refine zm_ll (f := 5) h rfl (by decide) rfl q23 ?_
      refine zi_a rfl rfl rfl ?_
      by_cases q24 : zix ((μ.2 5 (a1).toNatClampNeg)).toInt32 16
      case neg => rw [if_neg q24] at hk; cases hk
      rw [if_pos q24] at hk
      refine zm_ll (f := 20) h rfl (by decide) rfl q24 ?_
      cases hk
      exact zi_rl rfl rfl (k w h)
    rw [if_neg e22] at hk
    by_cases e25 : (μ.1 1 (a1).toNatClampNeg) = 103
    · rw [if_pos e25] at hk
      refine zi_si rfl c3 (off := 62) (by rw [e25]; rfl) (tgt := 77) (by decide) ?_
      refine zi_l rfl rfl rfl ?_
      refine zm_gl h rfl rfl rfl rfl ?_
      cases hk
      exact zi_rl rfl rfl (k w h)
    rw [if_neg e25] at hk
    cases hk
  · rw [if_neg c1] at hk
    refine zi_a (st' := .long 0 :: _) rfl rfl rfl ?_
    cases hk
    exact zi_rl rfl rfl (k w h)
def mF_begin_490 (g_reckon : Int32 → mS → Option (Int64 × mS)) (l1 : Int32) (l2 : Int32) (l3 : Int32) (l4 : Int32) (l5 : Int32) (l6 : Int64) (l8 : Int64) (μ : mS) : Option (Int32 × mS) :=
  if zix l1 500 then if (μ.1 12 (l1).toNatClampNeg) < 0 then (some ((1 : Int32), μ)) else (if zix l1 500 then if zix (μ.1 12 (l1).toNatClampNeg) 500 then mPut (mu1 μ 13 ((μ.1 12 (l1).toNatClampNeg)).toNatClampNeg (0 : Int32)) fun m5 => some ((1 : Int32), m5) else none else none) else none
theorem mT_begin_490 {S : zS} {q : Nat} {w w0 : zW} {Post : Option Value → zW → Prop} {m0 : Nat} {μ μ2 : mS} {v : Int32} {g_reckon : Int32 → mS → Option (Int64 × mS)} {l1 : Int32} {l2 : Int32} {l3 : Int32} {l4 : Int32} {l5 : Int32} {l6 : Int64} {l8 : Int64} (hq : 3 ≤ q) (H_reckon : ∀ {x1 : Int32} {ν ν2 : mS} {y : Int64} {w : zW} {P : Option Value → zW → Prop}, g_reckon x1 ν = some (y, ν2) → mW m0 w0 ν w → (∀ w2, mW m0 w0 ν2 w2 → P (some (.long y)) w2) → zOk S q 85 0 (lv_args 0 [.ref m0, .int x1]) [] w P) (hk : mF_begin_490 g_reckon l1 l2 l3 l4 l5 l6 l8 μ = some (v, μ2)) (h : mW m0 w0 μ w) (k : ∀ w2, mW m0 w0 μ2 w2 → Post (some (.int v)) w2) : zOk S (q + 1) 90 490 [(0, .ref m0), (1, .int l1), (2, .int l2), (3, .int l3), (4, .int l4), (5, .int l5), (6, .long l6), (8, .long l8)] [] w Post := by
  unfold mF_begin_490 at hk
  refine zi_l rfl rfl rfl ?_
  refine zm_ga (f := 12) h rfl rfl (by decide) ?_
  refine zi_l rfl rfl rfl ?_
  by_cases q1 : zix l1 500
  case neg => rw [if_neg q1] at hk; cases hk
  rw [if_pos q1] at hk
  refine zm_ld (f := 12) h rfl (by decide) rfl q1 ?_
  refine zi_ifd rfl rfl rfl (tgt := 511) (by decide) (fun c2 => ?_) (fun c2 => ?_)
  · rw [if_pos c2] at hk
    refine zi_a (st' := .int 1 :: _) rfl rfl rfl ?_
    cases hk
    exact zi_rz rfl rfl (Or.inr rfl) (k w h)
  · rw [if_neg c2] at hk
    refine zi_l rfl rfl rfl ?_
    refine zm_ga (f := 13) h rfl rfl (by decide) ?_
    refine zi_l rfl rfl rfl ?_
    refine zm_ga (f := 12) h rfl rfl (by decide) ?_
    refine zi_l rfl rfl rfl ?_
    by_cases q3 : zix l1 500
    case neg => rw [if_neg q3] at hk; cases hk
    rw [if_pos q3] at hk
    refine zm_ld (f := 12) h rfl (by decide) rfl q3 ?_
    refine zi_a (st' := .int 0 :: _) rfl rfl rfl ?_
    by_cases q4 : zix (μ.1 12 (l1).toNatClampNeg) 500
    case neg => rw [if_neg q4] at hk; cases hk
    rw [if_pos q4] at hk
    refine zm_sz (f := 13) h rfl (by decide) rfl rfl q4 (fun w h => ?_)
    generalize mu1 μ 13 ((μ.1 12 (l1).toNatClampNeg)).toNatClampNeg (0 : Int32) = m5 at h hk
    rw [mPut_eq] at hk
    refine zi_a (st' := .int 1 :: _) rfl rfl rfl ?_
    cases hk
    exact zi_rz rfl rfl (Or.inr rfl) (k w h)
def mF_begin_469 (g_reckon : Int32 → mS → Option (Int64 × mS)) (l1 : Int32) (l2 : Int32) (l3 : Int32) (l4 : Int32) (l5 : Int32) (l6 : Int64) (l8 : Int64) (μ : mS) : Option (Int32 × mS) :=
  if zix l1 500 then if (μ.1 11 (l1).toNatClampNeg) < 0 then (mF_begin_490 g_reckon l1 l2 l3 l4 l5 l6 l8 μ) else (if zix l1 500 then if zix (μ.1 11 (l1).toNatClampNeg) 500 then mPut (mu1 μ 13 ((μ.1 11 (l1).toNatClampNeg)).toNatClampNeg (0 : Int32)) fun m5 => mF_begin_490 g_reckon l1 l2 l3 l4 l5 l6 l8 m5 else none else none) else none
theorem mT_begin_469 {S : zS} {q : Nat} {w w0 : zW} {Post : Option Value → zW → Prop} {m0 : Nat} {μ μ2 : mS} {v : Int32} {g_reckon : Int32 → mS → Option (Int64 × mS)} {l1 : Int32} {l2 : Int32} {l3 : Int32} {l4 : Int32} {l5 : Int32} {l6 : Int64} {l8 : Int64} (hq : 3 ≤ q) (H_reckon : ∀ {x1 : Int32} {ν ν2 : mS} {y : Int64} {w : zW} {P : Option Value → zW → Prop}, g_reckon x1 ν = some (y, ν2) → mW m0 w0 ν w → (∀ w2, mW m0 w0 ν2 w2 → P (some (.long y)) w2) → zOk S q 85 0 (lv_args 0 [.ref m0, .int x1]) [] w P) (hk : mF_begin_469 g_reckon l1 l2 l3 l4 l5 l6 l8 μ = some (v, μ2)) (h : mW m0 w0 μ w) (k : ∀ w2, mW m0 w0 μ2 w2 → Post (some (.int v)) w2) : zOk S (q + 1) 90 469 [(0, .ref m0), (1, .int l1), (2, .int l2), (3, .int l3), (4, .int l4), (5, .int l5), (6, .long l6), (8, .long l8)] [] w Post := by
  unfold mF_begin_469 at hk
  refine zi_l rfl rfl rfl ?_
  refine zm_ga (f := 11) h rfl rfl (by decide) ?_
  refine zi_l rfl rfl rfl ?_
  by_cases q1 : zix l1 500
  case neg => rw [if_neg q1] at hk; cases hk
  rw [if_pos q1] at hk
  refine zm_ld (f := 11) h rfl (by decide) rfl q1 ?_
  refine zi_ifd rfl rfl rfl (tgt := 490) (by decide) (fun c2 => ?_) (fun c2 => ?_)
  · rw [if_pos c2] at hk
    exact mT_begin_490 hq H_reckon hk h k
  · rw [if_neg c2] at hk
    refine zi_l rfl rfl rfl ?_
    refine zm_ga (f := 13) h rfl rfl (by decide) ?_
    refine zi_l rfl rfl rfl ?_
    refine zm_ga (f := 11) h rfl rfl (by decide) ?_
    refine zi_l rfl rfl rfl ?_
    by_cases q3 : zix l1 500
    case neg => rw [if_neg q3] at hk; cases hk
    rw [if_pos q3] at hk
    refine zm_ld (f := 11) h rfl (by decide) rfl q3 ?_
    refine zi_a (st' := .int 0 :: _) rfl rfl rfl ?_
    by_cases q4 : zix (μ.1 11 (l1).toNatClampNeg) 500
    case neg => rw [if_neg q4] at hk; cases hk
    rw [if_pos q4] at hk
    refine zm_sz (f := 13) h rfl (by decide) rfl rfl q4 (fun w h => ?_)
    generalize mu1 μ 13 ((μ.1 11 (l1).toNatClampNeg)).toNatClampNeg (0 : Int32) = m5 at h hk
    rw [mPut_eq] at hk
    exact mT_begin_490 hq H_reckon hk h k
def mF_begin_388 (g_reckon : Int32 → mS → Option (Int64 × mS)) (l1 : Int32) (l2 : Int32) (l3 : Int32) (l4 : Int32) (l5 : Int32) (l6 : Int64) (l8 : Int64) (s1 : Int32) (s2 : Int32) (μ : mS) : Option (Int32 × mS) :=
  if zix s1 500 then mPut (mu1 μ 14 (s1).toNatClampNeg s2) fun m2 => mF_begin_469 g_reckon l1 l2 l3 l4 l5 l6 l8 m2 else none
theorem mT_begin_388 {S : zS} {q : Nat} {w w0 : zW} {Post : Option Value → zW → Prop} {m0 : Nat} {μ μ2 : mS} {v : Int32} {g_reckon : Int32 → mS → Option (Int64 × mS)} {l1 : Int32} {l2 : Int32} {l3 : Int32} {l4 : Int32} {l5 : Int32} {l6 : Int64} {l8 : Int64} {s1 : Int32} {s2 : Int32} (hq : 3 ≤ q) (H_reckon : ∀ {x1 : Int32} {ν ν2 : mS} {y : Int64} {w : zW} {P : Option Value → zW → Prop}, g_reckon x1 ν = some (y, ν2) → mW m0 w0 ν w → (∀ w2, mW m0 w0 ν2 w2 → P (some (.long y)) w2) → zOk S q 85 0 (lv_args 0 [.ref m0, .int x1]) [] w P) (hk : mF_begin_388 g_reckon l1 l2 l3 l4 l5 l6 l8 s1 s2 μ = some (v, μ2)) (h : mW m0 w0 μ w) (k : ∀ w2, mW m0 w0 μ2 w2 → Post (some (.int v)) w2) : zOk S (q + 1) 90 388 [(0, .ref m0), (1, .int l1), (2, .int l2), (3, .int l3), (4, .int l4), (5, .int l5), (6, .long l6), (8, .long l8)] [.int s2, .int s1, .ref (m0 + mA 14)] w Post := by
  unfold mF_begin_388 at hk
  by_cases q1 : zix s1 500
  case neg => rw [if_neg q1] at hk; cases hk
  rw [if_pos q1] at hk
  refine zm_st (f := 14) h rfl (by decide) rfl q1 (fun w h => ?_)
  generalize mu1 μ 14 (s1).toNatClampNeg s2 = m2 at h hk
  rw [mPut_eq] at hk
  refine zi_go rfl rfl rfl (tgt := 469) (by decide) ?_
  exact mT_begin_469 hq H_reckon hk h k
def mF_begin_455 (g_reckon : Int32 → mS → Option (Int64 × mS)) (l1 : Int32) (l2 : Int32) (l3 : Int32) (l4 : Int32) (l5 : Int32) (l6 : Int64) (l8 : Int64) (s1 : Int32) (s2 : Int32) (μ : mS) : Option (Int32 × mS) :=
  if zix s1 500 then mPut (mu1 μ 14 (s1).toNatClampNeg s2) fun m2 => if ¬ (lg_cmp l6 (0 : Int64)) = 0 then (mF_begin_469 g_reckon l1 l2 l3 l4 l5 l6 l8 m2) else (match mF_note l2 (3 : Int32) m2 with | none => none | some (v5, m6) => mF_begin_469 g_reckon l1 l2 l3 l4 l5 l6 l8 m6) else none
theorem mT_begin_455 {S : zS} {q : Nat} {w w0 : zW} {Post : Option Value → zW → Prop} {m0 : Nat} {μ μ2 : mS} {v : Int32} {g_reckon : Int32 → mS → Option (Int64 × mS)} {l1 : Int32} {l2 : Int32} {l3 : Int32} {l4 : Int32} {l5 : Int32} {l6 : Int64} {l8 : Int64} {s1 : Int32} {s2 : Int32} (hq : 3 ≤ q) (H_reckon : ∀ {x1 : Int32} {ν ν2 : mS} {y : Int64} {w : zW} {P : Option Value → zW → Prop}, g_reckon x1 ν = some (y, ν2) → mW m0 w0 ν w → (∀ w2, mW m0 w0 ν2 w2 → P (some (.long y)) w2) → zOk S q 85 0 (lv_args 0 [.ref m0, .int x1]) [] w P) (hk : mF_begin_455 g_reckon l1 l2 l3 l4 l5 l6 l8 s1 s2 μ = some (v, μ2)) (h : mW m0 w0 μ w) (k : ∀ w2, mW m0 w0 μ2 w2 → Post (some (.int v)) w2) : zOk S (q + 1) 90 455 [(0, .ref m0), (1, .int l1), (2, .int l2), (3, .int l3), (4, .int l4), (5, .int l5), (6, .long l6), (8, .long l8)] [.int s2, .int s1, .ref (m0 + mA 14)] w Post := by
  unfold mF_begin_455 at hk
  by_cases q1 : zix s1 500
  case neg => rw [if_neg q1] at hk; cases hk
  rw [if_pos q1] at hk
  refine zm_st (f := 14) h rfl (by decide) rfl q1 (fun w h => ?_)
  generalize mu1 μ 14 (s1).toNatClampNeg s2 = m2 at h hk
  rw [mPut_eq] at hk
  refine zi_l rfl rfl rfl ?_
  refine zi_a (st' := .long 0 :: _) rfl rfl rfl ?_
  refine zi_a rfl rfl rfl ?_
  refine zi_ifd rfl rfl rfl (tgt := 469) (by decide) (fun c3 => ?_) (fun c3 => ?_)
  · rw [if_pos c3] at hk
    exact mT_begin_469 hq H_reckon hk h k
  · rw [if_neg c3] at hk
    refine zi_l rfl rfl rfl ?_
    refine zi_l rfl rfl rfl ?_
    refine zi_a (st' := .int 3 :: _) rfl rfl rfl ?_
    cases c4 : mF_note l2 (3 : Int32) m2 with
    | none => rw [c4] at hk; cases hk
    | some q1 =>
      obtain ⟨v5, m6⟩ := q1
      rw [c4] at hk
      dsimp only at hk
      refine zm_c h rfl rfl rfl rfl rfl rfl ((mT_note (q := 0) (Nat.le_refl _) c4 h (fun w h => ?_)).deep (by omega))
      exact mT_begin_469 hq H_reckon hk h k
def mF_begin_361 (g_reckon : Int32 → mS → Option (Int64 × mS)) (l1 : Int32) (l2 : Int32) (l3 : Int32) (l4 : Int32) (l5 : Int32) (l6 : Int64) (l8 : Int64) (s1 : Int32) (s2 : Int64) (μ : mS) : Option (Int32 × mS) :=
  if zix s1 16 then mPut (mu2 μ 21 (s1).toNatClampNeg s2) fun m2 => mF_begin_469 g_reckon l1 l2 l3 l4 l5 l6 l8 m2 else none
theorem mT_begin_361 {S : zS} {q : Nat} {w w0 : zW} {Post : Option Value → zW → Prop} {m0 : Nat} {μ μ2 : mS} {v : Int32} {g_reckon : Int32 → mS → Option (Int64 × mS)} {l1 : Int32} {l2 : Int32} {l3 : Int32} {l4 : Int32} {l5 : Int32} {l6 : Int64} {l8 : Int64} {s1 : Int32} {s2 : Int64} (hq : 3 ≤ q) (H_reckon : ∀ {x1 : Int32} {ν ν2 : mS} {y : Int64} {w : zW} {P : Option Value → zW → Prop}, g_reckon x1 ν = some (y, ν2) → mW m0 w0 ν w → (∀ w2, mW m0 w0 ν2 w2 → P (some (.long y)) w2) → zOk S q 85 0 (lv_args 0 [.ref m0, .int x1]) [] w P) (hk : mF_begin_361 g_reckon l1 l2 l3 l4 l5 l6 l8 s1 s2 μ = some (v, μ2)) (h : mW m0 w0 μ w) (k : ∀ w2, mW m0 w0 μ2 w2 → Post (some (.int v)) w2) : zOk S (q + 1) 90 361 [(0, .ref m0), (1, .int l1), (2, .int l2), (3, .int l3), (4, .int l4), (5, .int l5), (6, .long l6), (8, .long l8)] [.long s2, .int s1, .ref (m0 + mA 21)] w Post := by
  unfold mF_begin_361 at hk
  by_cases q1 : zix s1 16
  case neg => rw [if_neg q1] at hk; cases hk
  rw [if_pos q1] at hk
  refine zm_sl (f := 21) h rfl (by decide) rfl q1 (fun w h => ?_)
  generalize mu2 μ 21 (s1).toNatClampNeg s2 = m2 at h hk
  rw [mPut_eq] at hk
  refine zi_go rfl rfl rfl (tgt := 469) (by decide) ?_
  exact mT_begin_469 hq H_reckon hk h k
def mF_begin_327 (g_reckon : Int32 → mS → Option (Int64 × mS)) (l1 : Int32) (l2 : Int32) (l3 : Int32) (l4 : Int32) (l5 : Int32) (l6 : Int64) (l8 : Int64) (s1 : Int32) (s2 : Int32) (μ : mS) : Option (Int32 × mS) :=
  if zix s1 500 then mPut (mu1 μ 14 (s1).toNatClampNeg s2) fun m2 => if zix l2 200 then if 0 ≤ (lg_cmp l8 (1 : Int64)) then (if zix l2 200 then if zix (m2.1 2 (l2).toNatClampNeg) 16 then mF_begin_361 g_reckon l1 l2 l3 l4 l5 l6 l8 (m2.1 2 (l2).toNatClampNeg) (m2.2 21 ((m2.1 2 (l2).toNatClampNeg)).toNatClampNeg) m2 else none else none) else (mF_begin_361 g_reckon l1 l2 l3 l4 l5 l6 l8 (m2.1 2 (l2).toNatClampNeg) l6 m2) else none else none
theorem mT_begin_327 {S : zS} {q : Nat} {w w0 : zW} {Post : Option Value → zW → Prop} {m0 : Nat} {μ μ2 : mS} {v : Int32} {g_reckon : Int32 → mS → Option (Int64 × mS)} {l1 : Int32} {l2 : Int32} {l3 : Int32} {l4 : Int32} {l5 : Int32} {l6 : Int64} {l8 : Int64} {s1 : Int32} {s2 : Int32} (hq : 3 ≤ q) (H_reckon : ∀ {x1 : Int32} {ν ν2 : mS} {y : Int64} {w : zW} {P : Option Value → zW → Prop}, g_reckon x1 ν = some (y, ν2) → mW m0 w0 ν w → (∀ w2, mW m0 w0 ν2 w2 → P (some (.long y)) w2) → zOk S q 85 0 (lv_args 0 [.ref m0, .int x1]) [] w P) (hk : mF_begin_327 g_reckon l1 l2 l3 l4 l5 l6 l8 s1 s2 μ = some (v, μ2)) (h : mW m0 w0 μ w) (k : ∀ w2, mW m0 w0 μ2 w2 → Post (some (.int v)) w2) : zOk S (q + 1) 90 327 [(0, .ref m0), (1, .int l1), (2, .int l2), (3, .int l3), (4, .int l4), (5, .int l5), (6, .long l6), (8, .long l8)] [.int s2, .int s1, .ref (m0 + mA 14)] w Post := by
  unfold mF_begin_327 at hk
  by_cases q1 : zix s1 500
  case neg => rw [if_neg q1] at hk; cases hk
  rw [if_pos q1] at hk
  refine zm_st (f := 14) h rfl (by decide) rfl q1 (fun w h => ?_)
  generalize mu1 μ 14 (s1).toNatClampNeg s2 = m2 at h hk
  rw [mPut_eq] at hk
  refine zi_l rfl rfl rfl ?_
  refine zm_ga (f := 21) h rfl rfl (by decide) ?_
  refine zi_l rfl rfl rfl ?_
  refine zm_ga (f := 2) h rfl rfl (by decide) ?_
  refine zi_l rfl rfl rfl ?_
  by_cases q3 : zix l2 200
  case neg => rw [if_neg q3] at hk; cases hk
  rw [if_pos q3] at hk
  refine zm_ld (f := 2) h rfl (by decide) rfl q3 ?_
  refine zi_l rfl rfl rfl ?_
  refine zi_a (st' := .long 1 :: _) rfl rfl rfl ?_
  refine zi_a rfl rfl rfl ?_
  refine zi_ifd rfl rfl rfl (tgt := 350) (by decide) (fun c4 => ?_) (fun c4 => ?_)
  · rw [if_pos c4] at hk
    refine zi_l rfl rfl rfl ?_
    refine zm_ga (f := 21) h rfl rfl (by decide) ?_
    refine zi_l rfl rfl rfl ?_
    refine zm_ga (f := 2) h rfl rfl (by decide) ?_
    refine zi_l rfl rfl rfl ?_
    by_cases q5 : zix l2 200
    case neg => rw [if_neg q5] at hk; cases hk
    rw [if_pos q5] at hk
    refine zm_ld (f := 2) h rfl (by decide) rfl q5 ?_
    by_cases q6 : zix (m2.1 2 (l2).toNatClampNeg) 16
    case neg => rw [if_neg q6] at hk; cases hk
    rw [if_pos q6] at hk
    refine zm_ll (f := 21) h rfl (by decide) rfl q6 ?_
    exact mT_begin_361 hq H_reckon hk h k
  · rw [if_neg c4] at hk
    refine zi_l rfl rfl rfl ?_
    refine zi_go rfl rfl rfl (tgt := 361) (by decide) ?_
    exact mT_begin_361 hq H_reckon hk h k
def mF_begin_428 (g_reckon : Int32 → mS → Option (Int64 × mS)) (l1 : Int32) (l2 : Int32) (l3 : Int32) (l4 : Int32) (l5 : Int32) (l6 : Int64) (l8 : Int64) (s1 : Int32) (s2 : Int32) (μ : mS) : Option (Int32 × mS) :=
  if zix s1 500 then mPut (mu1 μ 14 (s1).toNatClampNeg s2) fun m2 => mF_begin_469 g_reckon l1 l2 l3 l4 l5 l6 l8 m2 else none
theorem mT_begin_428 {S : zS} {q : Nat} {w w0 : zW} {Post : Option Value → zW → Prop} {m0 : Nat} {μ μ2 : mS} {v : Int32} {g_reckon : Int32 → mS → Option (Int64 × mS)} {l1 : Int32} {l2 : Int32} {l3 : Int32} {l4 : Int32} {l5 : Int32} {l6 : Int64} {l8 : Int64} {s1 : Int32} {s2 : Int32} (hq : 3 ≤ q) (H_reckon : ∀ {x1 : Int32} {ν ν2 : mS} {y : Int64} {w : zW} {P : Option Value → zW → Prop}, g_reckon x1 ν = some (y, ν2) → mW m0 w0 ν w → (∀ w2, mW m0 w0 ν2 w2 → P (some (.long y)) w2) → zOk S q 85 0 (lv_args 0 [.ref m0, .int x1]) [] w P) (hk : mF_begin_428 g_reckon l1 l2 l3 l4 l5 l6 l8 s1 s2 μ = some (v, μ2)) (h : mW m0 w0 μ w) (k : ∀ w2, mW m0 w0 μ2 w2 → Post (some (.int v)) w2) : zOk S (q + 1) 90 428 [(0, .ref m0), (1, .int l1), (2, .int l2), (3, .int l3), (4, .int l4), (5, .int l5), (6, .long l6), (8, .long l8)] [.int s2, .int s1, .ref (m0 + mA 14)] w Post := by
  unfold mF_begin_428 at hk
  by_cases q1 : zix s1 500
  case neg => rw [if_neg q1] at hk; cases hk
  rw [if_pos q1] at hk
  refine zm_st (f := 14) h rfl (by decide) rfl q1 (fun w h => ?_)
  generalize mu1 μ 14 (s1).toNatClampNeg s2 = m2 at h hk
  rw [mPut_eq] at hk
  refine zi_go rfl rfl rfl (tgt := 469) (by decide) ?_
  exact mT_begin_469 hq H_reckon hk h k
def mF_begin_234 (g_reckon : Int32 → mS → Option (Int64 × mS)) (l1 : Int32) (l2 : Int32) (l3 : Int32) (l4 : Int32) (l5 : Int32) (l6 : Int64) (l8 : Int64) (s1 : Int32) (s2 : Int64) (μ : mS) : Option (Int32 × mS) :=
  if zix s1 500 then mPut (mu2 μ 16 (s1).toNatClampNeg s2) fun m2 => if zix l1 500 then mPut (mu2 m2 17 (l1).toNatClampNeg l6) fun m4 => if ¬ l3 = (11 : Int32) then (if ¬ l3 = (12 : Int32) then (if ¬ l3 = (19 : Int32) then (if ¬ l3 = (14 : Int32) then (if ¬ l3 = (16 : Int32) then (if ¬ l3 = (18 : Int32) then (mF_begin_469 g_reckon l1 l2 l3 l4 l5 l6 l8 m4) else (if (lg_cmp l6 (0 : Int64)) = 0 then (mF_begin_455 g_reckon l1 l2 l3 l4 l5 l6 l8 l1 (1 : Int32) m4) else (mF_begin_455 g_reckon l1 l2 l3 l4 l5 l6 l8 l1 (0 : Int32) m4))) else (if (lg_cmp l6 (0 : Int64)) = 0 then (if zix l1 500 then if (m4.1 12 (l1).toNatClampNeg) < 0 then (mF_begin_428 g_reckon l1 l2 l3 l4 l5 l6 l8 l1 (2 : Int32) m4) else (mF_begin_428 g_reckon l1 l2 l3 l4 l5 l6 l8 l1 (1 : Int32) m4) else none) else (mF_begin_428 g_reckon l1 l2 l3 l4 l5 l6 l8 l1 (0 : Int32) m4))) else (if (lg_cmp l6 (0 : Int64)) = 0 then (mF_begin_388 g_reckon l1 l2 l3 l4 l5 l6 l8 l1 (0 : Int32) m4) else (mF_begin_388 g_reckon l1 l2 l3 l4 l5 l6 l8 l1 (1 : Int32) m4))) else (if zix l2 200 then if zix (m4.1 2 (l2).toNatClampNeg) 16 then if zix l1 500 then mPut (mu2 m4 18 (l1).toNatClampNeg (m4.2 21 ((m4.1 2 (l2).toNatClampNeg)).toNatClampNeg)) fun m19 => if 0 ≤ (lg_cmp l8 (1 : Int64)) then (mF_begin_327 g_reckon l1 l2 l3 l4 l5 l6 l8 l1 (0 : Int32) m19) else (mF_begin_327 g_reckon l1 l2 l3 l4 l5 l6 l8 l1 (1 : Int32) m19) else none else none else none)) else (if zix l2 200 then if zix (m4.1 2 (l2).toNatClampNeg) 16 then mPut (mu2 m4 20 ((m4.1 2 (l2).toNatClampNeg)).toNatClampNeg l6) fun m23 => mF_begin_469 g_reckon l1 l2 l3 l4 l5 l6 l8 m23 else none else none)) else (if zix l2 200 then if zix (m4.1 2 (l2).toNatClampNeg) 16 then mPut (mu2 m4 21 ((m4.1 2 (l2).toNatClampNeg)).toNatClampNeg l6) fun m26 => mF_begin_469 g_reckon l1 l2 l3 l4 l5 l6 l8 m26 else none else none) else none else none
theorem mT_begin_234 {S : zS} {q : Nat} {w w0 : zW} {Post : Option Value → zW → Prop} {m0 : Nat} {μ μ2 : mS} {v : Int32} {g_reckon : Int32 → mS → Option (Int64 × mS)} {l1 : Int32} {l2 : Int32} {l3 : Int32} {l4 : Int32} {l5 : Int32} {l6 : Int64} {l8 : Int64} {s1 : Int32} {s2 : Int64} (hq : 3 ≤ q) (H_reckon : ∀ {x1 : Int32} {ν ν2 : mS} {y : Int64} {w : zW} {P : Option Value → zW → Prop}, g_reckon x1 ν = some (y, ν2) → mW m0 w0 ν w → (∀ w2, mW m0 w0 ν2 w2 → P (some (.long y)) w2) → zOk S q 85 0 (lv_args 0 [.ref m0, .int x1]) [] w P) (hk : mF_begin_234 g_reckon l1 l2 l3 l4 l5 l6 l8 s1 s2 μ = some (v, μ2)) (h : mW m0 w0 μ w) (k : ∀ w2, mW m0 w0 μ2 w2 → Post (some (.int v)) w2) : zOk S (q + 1) 90 234 [(0, .ref m0), (1, .int l1), (2, .int l2), (3, .int l3), (4, .int l4), (5, .int l5), (6, .long l6), (8, .long l8)] [.long s2, .int s1, .ref (m0 + mA 16)] w Post := by
  unfold mF_begin_234 at hk
  by_cases q1 : zix s1 500
  case neg => rw [if_neg q1] at hk; cases hk
  rw [if_pos q1] at hk
  refine zm_sl (f := 16) h rfl (by decide) rfl q1 (fun w h => ?_)
  generalize mu2 μ 16 (s1).toNatClampNeg s2 = m2 at h hk
  rw [mPut_eq] at hk
  refine zi_l rfl rfl rfl ?_
  refine zm_ga (f := 17) h rfl rfl (by decide) ?_
  refine zi_l rfl rfl rfl ?_
  refine zi_l rfl rfl rfl ?_
  by_cases q3 : zix l1 500
  case neg => rw [if_neg q3] at hk; cases hk
  rw [if_pos q3] at hk
  refine zm_sl (f := 17) h rfl (by decide) rfl q3 (fun w h => ?_)
  generalize mu2 m2 17 (l1).toNatClampNeg l6 = m4 at h hk
  rw [mPut_eq] at hk
  refine zi_l rfl rfl rfl ?_
  refine zi_a (st' := .int 11 :: _) rfl rfl rfl ?_
  refine zi_ifd rfl rfl rfl (tgt := 265) (by decide) (fun c5 => ?_) (fun c5 => ?_)
  · rw [if_pos c5] at hk
    refine zi_l rfl rfl rfl ?_
    refine zi_a (st' := .int 12 :: _) rfl rfl rfl ?_
    refine zi_ifd rfl rfl rfl (tgt := 287) (by decide) (fun c6 => ?_) (fun c6 => ?_)
    · rw [if_pos c6] at hk
      refine zi_l rfl rfl rfl ?_
      refine zi_a (st' := .int 19 :: _) rfl rfl rfl ?_
      refine zi_ifd rfl rfl rfl (tgt := 365) (by decide) (fun c7 => ?_) (fun c7 => ?_)
      · rw [if_pos c7] at hk
        refine zi_l rfl rfl rfl ?_
        refine zi_a (st' := .int 14 :: _) rfl rfl rfl ?_
        refine zi_ifd rfl rfl rfl (tgt := 392) (by decide) (fun c8 => ?_) (fun c8 => ?_)
        · rw [if_pos c8] at hk
          refine zi_l rfl rfl rfl ?_
          refine zi_a (st' := .int 16 :: _) rfl rfl rfl ?_
          refine zi_ifd rfl rfl rfl (tgt := 432) (by decide) (fun c9 => ?_) (fun c9 => ?_)
          · rw [if_pos c9] at hk
            refine zi_l rfl rfl rfl ?_
            refine zi_a (st' := .int 18 :: _) rfl rfl rfl ?_
            refine zi_ifd rfl rfl rfl (tgt := 469) (by decide) (fun c10 => ?_) (fun c10 => ?_)
            · rw [if_pos c10] at hk
              exact mT_begin_469 hq H_reckon hk h k
            · rw [if_neg c10] at hk
              refine zi_l rfl rfl rfl ?_
              refine zm_ga (f := 14) h rfl rfl (by decide) ?_
              refine zi_l rfl rfl rfl ?_
              refine zi_l rfl rfl rfl ?_
              refine zi_a (st' := .long 0 :: _) rfl rfl rfl ?_
              refine zi_a rfl rfl rfl ?_
              refine zi_ifd rfl rfl rfl (tgt := 454) (by decide) (fun c11 => ?_) (fun c11 => ?_)
              · rw [if_pos c11] at hk
                refine zi_a (st' := .int 1 :: _) rfl rfl rfl ?_
                exact mT_begin_455 hq H_reckon hk h k
              · rw [if_neg c11] at hk
                refine zi_a (st' := .int 0 :: _) rfl rfl rfl ?_
                refine zi_go rfl rfl rfl (tgt := 455) (by decide) ?_
                exact mT_begin_455 hq H_reckon hk h k
          · rw [if_neg c9] at hk
            refine zi_l rfl rfl rfl ?_
            refine zm_ga (f := 14) h rfl rfl (by decide) ?_
            refine zi_l rfl rfl rfl ?_
            refine zi_l rfl rfl rfl ?_
            refine zi_a (st' := .long 0 :: _) rfl rfl rfl ?_
            refine zi_a rfl rfl rfl ?_
            refine zi_ifd rfl rfl rfl (tgt := 414) (by decide) (fun c12 => ?_) (fun c12 => ?_)
            · rw [if_pos c12] at hk
              refine zi_l rfl rfl rfl ?_
              refine zm_ga (f := 12) h rfl rfl (by decide) ?_
              refine zi_l rfl rfl rfl ?_
              by_cases q13 : zix l1 500
              case neg => rw [if_neg q13] at hk; cases hk
              rw [if_pos q13] at hk
              refine zm_ld (f := 12) h rfl (by decide) rfl q13 ?_
              refine zi_ifd rfl rfl rfl (tgt := 427) (by decide) (fun c14 => ?_) (fun c14 => ?_)
              · rw [if_pos c14] at hk
                refine zi_a (st' := .int 2 :: _) rfl rfl rfl ?_
                exact mT_begin_428 hq H_reckon hk h k
              · rw [if_neg c14] at hk
                refine zi_a (st' := .int 1 :: _) rfl rfl rfl ?_
                refine zi_go rfl rfl rfl (tgt := 428) (by decide) ?_
                exact mT_begin_428 hq H_reckon hk h k
            · rw [if_neg c12] at hk
              refine zi_a (st' := .int 0 :: _) rfl rfl rfl ?_
              refine zi_go rfl rfl rfl (tgt := 428) (by decide) ?_
              exact mT_begin_428 hq H_reckon hk h k
        · rw [if_neg c8] at hk
          refine zi_l rfl rfl rfl ?_
          refine zm_ga (f := 14) h rfl rfl (by decide) ?_
          refine zi_l rfl rfl rfl ?_
          refine zi_l rfl rfl rfl ?_
          refine zi_a (st' := .long 0 :: _) rfl rfl rfl ?_
          refine zi_a rfl rfl rfl ?_
          refine zi_ifd rfl rfl rfl (tgt := 387) (by decide) (fun c15 => ?_) (fun c15 => ?_)
          · rw [if_pos c15] at hk
            refine zi_a (st' := .int 0 :: _) rfl rfl rfl ?_
            exact mT_begin_388 hq H_reckon hk h k
          · rw [if_neg c15] at hk
            refine zi_a (st' := .int 1 :: _) rfl rfl rfl ?_
            refine zi_go rfl rfl rfl (tgt := 388) (by decide) ?_
            exact mT_begin_388 hq H_reckon hk h k
      · rw [if_neg c7] at hk
        refine zi_l rfl rfl rfl ?_
        refine zm_ga (f := 18) h rfl rfl (by decide) ?_
        refine zi_l rfl rfl rfl ?_
        refine zi_l rfl rfl rfl ?_
        refine zm_ga (f := 21) h rfl rfl (by decide) ?_
        refine zi_l rfl rfl rfl ?_
        refine zm_ga (f := 2) h rfl rfl (by decide) ?_
        refine zi_l rfl rfl rfl ?_
        by_cases q16 : zix l2 200
        case neg => rw [if_neg q16] at hk; cases hk
        rw [if_pos q16] at hk
        refine zm_ld (f := 2) h rfl (by decide) rfl q16 ?_
        by_cases q17 : zix (m4.1 2 (l2).toNatClampNeg) 16
        case neg => rw [if_neg q17] at hk; cases hk
        rw [if_pos q17] at hk
        refine zm_ll (f := 21) h rfl (by decide) rfl q17 ?_
        by_cases q18 : zix l1 500
        case neg => rw [if_neg q18] at hk; cases hk
        rw [if_pos q18] at hk
        refine zm_sl (f := 18) h rfl (by decide) rfl q18 (fun w h => ?_)
        generalize mu2 m4 18 (l1).toNatClampNeg (m4.2 21 ((m4.1 2 (l2).toNatClampNeg)).toNatClampNeg) = m19 at h hk
        rw [mPut_eq] at hk
        refine zi_l rfl rfl rfl ?_
        refine zm_ga (f := 14) h rfl rfl (by decide) ?_
        refine zi_l rfl rfl rfl ?_
        refine zi_l rfl rfl rfl ?_
        refine zi_a (st' := .long 1 :: _) rfl rfl rfl ?_
        refine zi_a rfl rfl rfl ?_
        refine zi_ifd rfl rfl rfl (tgt := 326) (by decide) (fun c20 => ?_) (fun c20 => ?_)
        · rw [if_pos c20] at hk
          refine zi_a (st' := .int 0 :: _) rfl rfl rfl ?_
          exact mT_begin_327 hq H_reckon hk h k
        · rw [if_neg c20] at hk
          refine zi_a (st' := .int 1 :: _) rfl rfl rfl ?_
          refine zi_go rfl rfl rfl (tgt := 327) (by decide) ?_
          exact mT_begin_327 hq H_reckon hk h k
    · rw [if_neg c6] at hk
      refine zi_l rfl rfl rfl ?_
      refine zm_ga (f := 20) h rfl rfl (by decide) ?_
      refine zi_l rfl rfl rfl ?_
      refine zm_ga (f := 2) h rfl rfl (by decide) ?_
      refine zi_l rfl rfl rfl ?_
      by_cases q21 : zix l2 200
      case neg => rw [if_neg q21] at hk; cases hk
      rw [if_pos q21] at hk
      refine zm_ld (f := 2) h rfl (by decide) rfl q21 ?_
      refine zi_l rfl rfl rfl ?_
      by_cases q22 : zix (m4.1 2 (l2).toNatClampNeg) 16
      case neg => rw [if_neg q22] at hk; cases hk
      rw [if_pos q22] at hk
      refine zm_sl (f := 20) h rfl (by decide) rfl q22 (fun w h => ?_)
      generalize mu2 m4 20 ((m4.1 2 (l2).toNatClampNeg)).toNatClampNeg l6 = m23 at h hk
      rw [mPut_eq] at hk
      refine zi_go rfl rfl rfl (tgt := 469) (by decide) ?_
      exact mT_begin_469 hq H_reckon hk h k
  · rw [if_neg c5] at hk
    refine zi_l rfl rfl rfl ?_
    refine zm_ga (f := 21) h rfl rfl (by decide) ?_
    refine zi_l rfl rfl rfl ?_
    refine zm_ga (f := 2) h rfl rfl (by decide) ?_
    refine zi_l rfl rfl rfl ?_
    by_cases q24 : zix l2 200
    case neg => rw [if_neg q24] at hk; cases hk
    rw [if_pos q24] at hk
    refine zm_ld (f := 2) h rfl (by decide) rfl q24 ?_
    refine zi_l rfl rfl rfl ?_
    by_cases q25 : zix (m4.1 2 (l2).toNatClampNeg) 16
    case neg => rw [if_neg q25] at hk; cases hk
    rw [if_pos q25] at hk
    refine zm_sl (f := 21) h rfl (by decide) rfl q25 (fun w h => ?_)
    generalize mu2 m4 21 ((m4.1 2 (l2).toNatClampNeg)).toNatClampNeg l6 = m26 at h hk
    rw [mPut_eq] at hk
    refine zi_go rfl rfl rfl (tgt := 469) (by decide) ?_
    exact mT_begin_469 hq H_reckon hk h k
def mF_begin_181 (g_reckon : Int32 → mS → Option (Int64 × mS)) (l1 : Int32) (l2 : Int32) (l3 : Int32) (l4 : Int32) (l5 : Int32) (l6 : Int64) (s0 : Int64) (μ : mS) : Option (Int32 × mS) :=
  match mF_isBad  μ with | none => none | some (v2, m3) => if v2 = 0 then (if zix l1 500 then mPut (mu1 m3 13 (l1).toNatClampNeg (1 : Int32)) fun m6 => if zix l1 500 then mPut (mu1 m6 14 (l1).toNatClampNeg (0 : Int32)) fun m8 => if zix l1 500 then mPut (mu2 m8 15 (l1).toNatClampNeg (m8.2 26 0)) fun m10 => if ¬ l3 = (19 : Int32) then (mF_begin_234 g_reckon l1 l2 l3 l4 l5 l6 s0 l1 l6 m10) else (mF_begin_234 g_reckon l1 l2 l3 l4 l5 l6 s0 l1 s0 m10) else none else none else none) else (some ((0 : Int32), m3))
theorem mT_begin_181 {S : zS} {q : Nat} {w w0 : zW} {Post : Option Value → zW → Prop} {m0 : Nat} {μ μ2 : mS} {v : Int32} {g_reckon : Int32 → mS → Option (Int64 × mS)} {l1 : Int32} {l2 : Int32} {l3 : Int32} {l4 : Int32} {l5 : Int32} {l6 : Int64} {s0 : Int64} (hq : 3 ≤ q) (H_reckon : ∀ {x1 : Int32} {ν ν2 : mS} {y : Int64} {w : zW} {P : Option Value → zW → Prop}, g_reckon x1 ν = some (y, ν2) → mW m0 w0 ν w → (∀ w2, mW m0 w0 ν2 w2 → P (some (.long y)) w2) → zOk S q 85 0 (lv_args 0 [.ref m0, .int x1]) [] w P) (hk : mF_begin_181 g_reckon l1 l2 l3 l4 l5 l6 s0 μ = some (v, μ2)) (h : mW m0 w0 μ w) (k : ∀ w2, mW m0 w0 μ2 w2 → Post (some (.int v)) w2) : zOk S (q + 1) 90 181 [(0, .ref m0), (1, .int l1), (2, .int l2), (3, .int l3), (4, .int l4), (5, .int l5), (6, .long l6)] [.long s0] w Post := by
  unfold mF_begin_181 at hk
  refine zi_l rfl rfl rfl ?_
  refine zi_l rfl rfl rfl ?_
  cases c1 : mF_isBad  μ with
  | none => rw [c1] at hk; cases hk
  | some q1 =>
    obtain ⟨v2, m3⟩ := q1
    rw [c1] at hk
    dsimp only at hk
    refine zm_c h rfl rfl rfl rfl rfl rfl ((mT_isBad (q := 1) (Nat.le_refl _) c1 h (fun w h => ?_)).deep (by omega))
    refine zi_ifd rfl rfl rfl (tgt := 192) (by decide) (fun c4 => ?_) (fun c4 => ?_)
    · rw [if_pos c4] at hk
      refine zi_l rfl rfl rfl ?_
      refine zm_ga (f := 13) h rfl rfl (by decide) ?_
      refine zi_l rfl rfl rfl ?_
      refine zi_a (st' := .int 1 :: _) rfl rfl rfl ?_
      by_cases q5 : zix l1 500
      case neg => rw [if_neg q5] at hk; cases hk
      rw [if_pos q5] at hk
      refine zm_sz (f := 13) h rfl (by decide) rfl rfl q5 (fun w h => ?_)
      generalize mu1 m3 13 (l1).toNatClampNeg (1 : Int32) = m6 at h hk
      rw [mPut_eq] at hk
      refine zi_l rfl rfl rfl ?_
      refine zm_ga (f := 14) h rfl rfl (by decide) ?_
      refine zi_l rfl rfl rfl ?_
      refine zi_a (st' := .int 0 :: _) rfl rfl rfl ?_
      by_cases q7 : zix l1 500
      case neg => rw [if_neg q7] at hk; cases hk
      rw [if_pos q7] at hk
      refine zm_st (f := 14) h rfl (by decide) rfl q7 (fun w h => ?_)
      generalize mu1 m6 14 (l1).toNatClampNeg (0 : Int32) = m8 at h hk
      rw [mPut_eq] at hk
      refine zi_l rfl rfl rfl ?_
      refine zm_ga (f := 15) h rfl rfl (by decide) ?_
      refine zi_l rfl rfl rfl ?_
      refine zi_l rfl rfl rfl ?_
      refine zm_gl h rfl rfl rfl rfl ?_
      by_cases q9 : zix l1 500
      case neg => rw [if_neg q9] at hk; cases hk
      rw [if_pos q9] at hk
      refine zm_sl (f := 15) h rfl (by decide) rfl q9 (fun w h => ?_)
      generalize mu2 m8 15 (l1).toNatClampNeg (m8.2 26 0) = m10 at h hk
      rw [mPut_eq] at hk
      refine zi_l rfl rfl rfl ?_
      refine zm_ga (f := 16) h rfl rfl (by decide) ?_
      refine zi_l rfl rfl rfl ?_
      refine zi_l rfl rfl rfl ?_
      refine zi_a (st' := .int 19 :: _) rfl rfl rfl ?_
      refine zi_ifd rfl rfl rfl (tgt := 232) (by decide) (fun c11 => ?_) (fun c11 => ?_)
      · rw [if_pos c11] at hk
        refine zi_l rfl rfl rfl ?_
        exact mT_begin_234 hq H_reckon hk h k
      · rw [if_neg c11] at hk
        refine zi_l rfl rfl rfl ?_
        refine zi_go rfl rfl rfl (tgt := 234) (by decide) ?_
        exact mT_begin_234 hq H_reckon hk h k
    · rw [if_neg c4] at hk
      refine zi_a (st' := .int 0 :: _) rfl rfl rfl ?_
      cases hk
      exact zi_rz rfl rfl (Or.inl rfl) (k w h)
def mF_begin_159 (g_reckon : Int32 → mS → Option (Int64 × mS)) (l1 : Int32) (l2 : Int32) (l3 : Int32) (l4 : Int32) (l5 : Int32) (s0 : Int64) (μ : mS) : Option (Int32 × mS) :=
  if ¬ l3 = (19 : Int32) then (mF_begin_181 g_reckon l1 l2 l3 l4 l5 s0 (0 : Int64) μ) else (if zix l2 200 then match g_reckon (μ.1 4 (l2).toNatClampNeg) μ with | none => none | some (v4, m5) => mF_begin_181 g_reckon l1 l2 l3 l4 l5 s0 v4 m5 else none)
theorem mT_begin_159 {S : zS} {q : Nat} {w w0 : zW} {Post : Option Value → zW → Prop} {m0 : Nat} {μ μ2 : mS} {v : Int32} {g_reckon : Int32 → mS → Option (Int64 × mS)} {l1 : Int32} {l2 : Int32} {l3 : Int32} {l4 : Int32} {l5 : Int32} {s0 : Int64} (hq : 3 ≤ q) (H_reckon : ∀ {x1 : Int32} {ν ν2 : mS} {y : Int64} {w : zW} {P : Option Value → zW → Prop}, g_reckon x1 ν = some (y, ν2) → mW m0 w0 ν w → (∀ w2, mW m0 w0 ν2 w2 → P (some (.long y)) w2) → zOk S q 85 0 (lv_args 0 [.ref m0, .int x1]) [] w P) (hk : mF_begin_159 g_reckon l1 l2 l3 l4 l5 s0 μ = some (v, μ2)) (h : mW m0 w0 μ w) (k : ∀ w2, mW m0 w0 μ2 w2 → Post (some (.int v)) w2) : zOk S (q + 1) 90 159 [(0, .ref m0), (1, .int l1), (2, .int l2), (3, .int l3), (4, .int l4), (5, .int l5)] [.long s0] w Post := by
  unfold mF_begin_159 at hk
  refine zi_l rfl rfl rfl ?_
  refine zi_l rfl rfl rfl ?_
  refine zi_a (st' := .int 19 :: _) rfl rfl rfl ?_
  refine zi_ifd rfl rfl rfl (tgt := 180) (by decide) (fun c1 => ?_) (fun c1 => ?_)
  · rw [if_pos c1] at hk
    refine zi_a (st' := .long 0 :: _) rfl rfl rfl ?_
    exact mT_begin_181 hq H_reckon hk h k
  · rw [if_neg c1] at hk
    refine zi_l rfl rfl rfl ?_
    refine zi_l rfl rfl rfl ?_
    refine zm_ga (f := 4) h rfl rfl (by decide) ?_
    refine zi_l rfl rfl rfl ?_
    by_cases q2 : zix l2 200
    case neg => rw [if_neg q2] at hk; cases hk
    rw [if_pos q2] at hk
    refine zm_ld (f := 4) h rfl (by decide) rfl q2 ?_
    cases c3 : g_reckon (μ.1 4 (l2).toNatClampNeg) μ with
    | none => rw [c3] at hk; cases hk
    | some q1 =>
      obtain ⟨v4, m5⟩ := q1
      rw [c3] at hk
      dsimp only at hk
      refine zm_c h rfl rfl rfl rfl rfl rfl (H_reckon c3 h (fun w h => ?_))
      refine zi_go rfl rfl rfl (tgt := 181) (by decide) ?_
      exact mT_begin_181 hq H_reckon hk h k
def mF_begin_120 (g_reckon : Int32 → mS → Option (Int64 × mS)) (l1 : Int32) (l2 : Int32) (l3 : Int32) (l4 : Int32) (s0 : Int32) (μ : mS) : Option (Int32 × mS) :=
  if l4 = 0 then (if s0 = 0 then (mF_begin_159 g_reckon l1 l2 l3 l4 s0 (0 : Int64) μ) else (if zix l2 200 then match g_reckon (μ.1 3 (l2).toNatClampNeg) μ with | none => none | some (v5, m6) => mF_begin_159 g_reckon l1 l2 l3 l4 s0 v5 m6 else none)) else (if zix l2 200 then match g_reckon (μ.1 2 (l2).toNatClampNeg) μ with | none => none | some (v9, m10) => mF_begin_159 g_reckon l1 l2 l3 l4 s0 v9 m10 else none)
theorem mT_begin_120 {S : zS} {q : Nat} {w w0 : zW} {Post : Option Value → zW → Prop} {m0 : Nat} {μ μ2 : mS} {v : Int32} {g_reckon : Int32 → mS → Option (Int64 × mS)} {l1 : Int32} {l2 : Int32} {l3 : Int32} {l4 : Int32} {s0 : Int32} (hq : 3 ≤ q) (H_reckon : ∀ {x1 : Int32} {ν ν2 : mS} {y : Int64} {w : zW} {P : Option Value → zW → Prop}, g_reckon x1 ν = some (y, ν2) → mW m0 w0 ν w → (∀ w2, mW m0 w0 ν2 w2 → P (some (.long y)) w2) → zOk S q 85 0 (lv_args 0 [.ref m0, .int x1]) [] w P) (hk : mF_begin_120 g_reckon l1 l2 l3 l4 s0 μ = some (v, μ2)) (h : mW m0 w0 μ w) (k : ∀ w2, mW m0 w0 μ2 w2 → Post (some (.int v)) w2) : zOk S (q + 1) 90 120 [(0, .ref m0), (1, .int l1), (2, .int l2), (3, .int l3), (4, .int l4)] [.int s0] w Post := by
  unfold mF_begin_120 at hk
  refine zi_l rfl rfl rfl ?_
  refine zi_l rfl rfl rfl ?_
  refine zi_ifd rfl rfl rfl (tgt := 140) (by decide) (fun c1 => ?_) (fun c1 => ?_)
  · rw [if_pos c1] at hk
    refine zi_l rfl rfl rfl ?_
    refine zi_ifd rfl rfl rfl (tgt := 158) (by decide) (fun c2 => ?_) (fun c2 => ?_)
    · rw [if_pos c2] at hk
      refine zi_a (st' := .long 0 :: _) rfl rfl rfl ?_
      exact mT_begin_159 hq H_reckon hk h k
    · rw [if_neg c2] at hk
      refine zi_l rfl rfl rfl ?_
      refine zi_l rfl rfl rfl ?_
      refine zm_ga (f := 3) h rfl rfl (by decide) ?_
      refine zi_l rfl rfl rfl ?_
      by_cases q3 : zix l2 200
      case neg => rw [if_neg q3] at hk; cases hk
      rw [if_pos q3] at hk
      refine zm_ld (f := 3) h rfl (by decide) rfl q3 ?_
      cases c4 : g_reckon (μ.1 3 (l2).toNatClampNeg) μ with
      | none => rw [c4] at hk; cases hk
      | some q1 =>
        obtain ⟨v5, m6⟩ := q1
        rw [c4] at hk
        dsimp only at hk
        refine zm_c h rfl rfl rfl rfl rfl rfl (H_reckon c4 h (fun w h => ?_))
        refine zi_go rfl rfl rfl (tgt := 159) (by decide) ?_
        exact mT_begin_159 hq H_reckon hk h k
  · rw [if_neg c1] at hk
    refine zi_l rfl rfl rfl ?_
    refine zi_l rfl rfl rfl ?_
    refine zm_ga (f := 2) h rfl rfl (by decide) ?_
    refine zi_l rfl rfl rfl ?_
    by_cases q7 : zix l2 200
    case neg => rw [if_neg q7] at hk; cases hk
    rw [if_pos q7] at hk
    refine zm_ld (f := 2) h rfl (by decide) rfl q7 ?_
    cases c8 : g_reckon (μ.1 2 (l2).toNatClampNeg) μ with
    | none => rw [c8] at hk; cases hk
    | some q1 =>
      obtain ⟨v9, m10⟩ := q1
      rw [c8] at hk
      dsimp only at hk
      refine zm_c h rfl rfl rfl rfl rfl rfl (H_reckon c8 h (fun w h => ?_))
      refine zi_go rfl rfl rfl (tgt := 159) (by decide) ?_
      exact mT_begin_159 hq H_reckon hk h k
def mF_begin_115 (g_reckon : Int32 → mS → Option (Int64 × mS)) (l1 : Int32) (l2 : Int32) (l3 : Int32) (l4 : Int32) (μ : mS) : Option (Int32 × mS) :=
  mF_begin_120 g_reckon l1 l2 l3 l4 (1 : Int32) μ
theorem mT_begin_115 {S : zS} {q : Nat} {w w0 : zW} {Post : Option Value → zW → Prop} {m0 : Nat} {μ μ2 : mS} {v : Int32} {g_reckon : Int32 → mS → Option (Int64 × mS)} {l1 : Int32} {l2 : Int32} {l3 : Int32} {l4 : Int32} (hq : 3 ≤ q) (H_reckon : ∀ {x1 : Int32} {ν ν2 : mS} {y : Int64} {w : zW} {P : Option Value → zW → Prop}, g_reckon x1 ν = some (y, ν2) → mW m0 w0 ν w → (∀ w2, mW m0 w0 ν2 w2 → P (some (.long y)) w2) → zOk S q 85 0 (lv_args 0 [.ref m0, .int x1]) [] w P) (hk : mF_begin_115 g_reckon l1 l2 l3 l4 μ = some (v, μ2)) (h : mW m0 w0 μ w) (k : ∀ w2, mW m0 w0 μ2 w2 → Post (some (.int v)) w2) : zOk S (q + 1) 90 115 [(0, .ref m0), (1, .int l1), (2, .int l2), (3, .int l3), (4, .int l4)] [] w Post := by
  unfold mF_begin_115 at hk
  refine zi_a (st' := .int 1 :: _) rfl rfl rfl ?_
  refine zi_go rfl rfl rfl (tgt := 120) (by decide) ?_
  exact mT_begin_120 hq H_reckon hk h k
def mF_begin_95 (g_reckon : Int32 → mS → Option (Int64 × mS)) (l1 : Int32) (l2 : Int32) (l3 : Int32) (s0 : Int32) (μ : mS) : Option (Int32 × mS) :=
  if l3 = (11 : Int32) then (mF_begin_115 g_reckon l1 l2 l3 s0 μ) else (if l3 = (12 : Int32) then (mF_begin_115 g_reckon l1 l2 l3 s0 μ) else (if ¬ l3 = (19 : Int32) then (mF_begin_120 g_reckon l1 l2 l3 s0 (0 : Int32) μ) else (mF_begin_115 g_reckon l1 l2 l3 s0 μ)))
theorem mT_begin_95 {S : zS} {q : Nat} {w w0 : zW} {Post : Option Value → zW → Prop} {m0 : Nat} {μ μ2 : mS} {v : Int32} {g_reckon : Int32 → mS → Option (Int64 × mS)} {l1 : Int32} {l2 : Int32} {l3 : Int32} {s0 : Int32} (hq : 3 ≤ q) (H_reckon : ∀ {x1 : Int32} {ν ν2 : mS} {y : Int64} {w : zW} {P : Option Value → zW → Prop}, g_reckon x1 ν = some (y, ν2) → mW m0 w0 ν w → (∀ w2, mW m0 w0 ν2 w2 → P (some (.long y)) w2) → zOk S q 85 0 (lv_args 0 [.ref m0, .int x1]) [] w P) (hk : mF_begin_95 g_reckon l1 l2 l3 s0 μ = some (v, μ2)) (h : mW m0 w0 μ w) (k : ∀ w2, mW m0 w0 μ2 w2 → Post (some (.int v)) w2) : zOk S (q + 1) 90 95 [(0, .ref m0), (1, .int l1), (2, .int l2), (3, .int l3)] [.int s0] w Post := by
  unfold mF_begin_95 at hk
  refine zi_l rfl rfl rfl ?_
  refine zi_l rfl rfl rfl ?_
  refine zi_a (st' := .int 11 :: _) rfl rfl rfl ?_
  refine zi_ifd rfl rfl rfl (tgt := 115) (by decide) (fun c1 => ?_) (fun c1 => ?_)
  · rw [if_pos c1] at hk
    exact mT_begin_115 hq H_reckon hk h k
  · rw [if_neg c1] at hk
    refine zi_l rfl rfl rfl ?_
    refine zi_a (st' := .int 12 :: _) rfl rfl rfl ?_
    refine zi_ifd rfl rfl rfl (tgt := 115) (by decide) (fun c2 => ?_) (fun c2 => ?_)
    · rw [if_pos c2] at hk
      exact mT_begin_115 hq H_reckon hk h k
    · rw [if_neg c2] at hk
      refine zi_l rfl rfl rfl ?_
      refine zi_a (st' := .int 19 :: _) rfl rfl rfl ?_
      refine zi_ifd rfl rfl rfl (tgt := 119) (by decide) (fun c3 => ?_) (fun c3 => ?_)
      · rw [if_pos c3] at hk
        refine zi_a (st' := .int 0 :: _) rfl rfl rfl ?_
        exact mT_begin_120 hq H_reckon hk h k
      · rw [if_neg c3] at hk
        exact mT_begin_115 hq H_reckon hk h k
def mF_begin_90 (g_reckon : Int32 → mS → Option (Int64 × mS)) (l1 : Int32) (l2 : Int32) (l3 : Int32) (μ : mS) : Option (Int32 × mS) :=
  mF_begin_95 g_reckon l1 l2 l3 (1 : Int32) μ
theorem mT_begin_90 {S : zS} {q : Nat} {w w0 : zW} {Post : Option Value → zW → Prop} {m0 : Nat} {μ μ2 : mS} {v : Int32} {g_reckon : Int32 → mS → Option (Int64 × mS)} {l1 : Int32} {l2 : Int32} {l3 : Int32} (hq : 3 ≤ q) (H_reckon : ∀ {x1 : Int32} {ν ν2 : mS} {y : Int64} {w : zW} {P : Option Value → zW → Prop}, g_reckon x1 ν = some (y, ν2) → mW m0 w0 ν w → (∀ w2, mW m0 w0 ν2 w2 → P (some (.long y)) w2) → zOk S q 85 0 (lv_args 0 [.ref m0, .int x1]) [] w P) (hk : mF_begin_90 g_reckon l1 l2 l3 μ = some (v, μ2)) (h : mW m0 w0 μ w) (k : ∀ w2, mW m0 w0 μ2 w2 → Post (some (.int v)) w2) : zOk S (q + 1) 90 90 [(0, .ref m0), (1, .int l1), (2, .int l2), (3, .int l3)] [] w Post := by
  unfold mF_begin_90 at hk
  refine zi_a (st' := .int 1 :: _) rfl rfl rfl ?_
  refine zi_go rfl rfl rfl (tgt := 95) (by decide) ?_
  exact mT_begin_95 hq H_reckon hk h k
def mF_begin_49 (g_reckon : Int32 → mS → Option (Int64 × mS)) (l1 : Int32) (l2 : Int32) (s1 : Int32) (s2 : Int32) (μ : mS) : Option (Int32 × mS) :=
  mPut (mu1 μ 27 0 (s1 + s2)) fun m1 => if zix l2 200 then if (m1.1 1 (l2).toNatClampNeg) = (13 : Int32) then (mF_begin_90 g_reckon l1 l2 (m1.1 1 (l2).toNatClampNeg) m1) else (if (m1.1 1 (l2).toNatClampNeg) = (14 : Int32) then (mF_begin_90 g_reckon l1 l2 (m1.1 1 (l2).toNatClampNeg) m1) else (if (m1.1 1 (l2).toNatClampNeg) = (16 : Int32) then (mF_begin_90 g_reckon l1 l2 (m1.1 1 (l2).toNatClampNeg) m1) else (if (m1.1 1 (l2).toNatClampNeg) = (17 : Int32) then (mF_begin_90 g_reckon l1 l2 (m1.1 1 (l2).toNatClampNeg) m1) else (if ¬ (m1.1 1 (l2).toNatClampNeg) = (18 : Int32) then (mF_begin_95 g_reckon l1 l2 (m1.1 1 (l2).toNatClampNeg) (0 : Int32) m1) else (mF_begin_90 g_reckon l1 l2 (m1.1 1 (l2).toNatClampNeg) m1))))) else none
theorem mT_begin_49 {S : zS} {q : Nat} {w w0 : zW} {Post : Option Value → zW → Prop} {m0 : Nat} {μ μ2 : mS} {v : Int32} {g_reckon : Int32 → mS → Option (Int64 × mS)} {l1 : Int32} {l2 : Int32} {s1 : Int32} {s2 : Int32} (hq : 3 ≤ q) (H_reckon : ∀ {x1 : Int32} {ν ν2 : mS} {y : Int64} {w : zW} {P : Option Value → zW → Prop}, g_reckon x1 ν = some (y, ν2) → mW m0 w0 ν w → (∀ w2, mW m0 w0 ν2 w2 → P (some (.long y)) w2) → zOk S q 85 0 (lv_args 0 [.ref m0, .int x1]) [] w P) (hk : mF_begin_49 g_reckon l1 l2 s1 s2 μ = some (v, μ2)) (h : mW m0 w0 μ w) (k : ∀ w2, mW m0 w0 μ2 w2 → Post (some (.int v)) w2) : zOk S (q + 1) 90 49 [(0, .ref m0), (1, .int l1), (2, .int l2)] [.int s2, .int s1, .ref m0] w Post := by
  unfold mF_begin_49 at hk
  refine zi_a rfl rfl rfl ?_
  refine zm_p h rfl rfl rfl rfl ⟨rfl, rfl, Or.inl rfl⟩ (fun w h => ?_)
  generalize mu1 μ 27 0 (s1 + s2) = m1 at h hk
  rw [mPut_eq] at hk
  refine zi_l rfl rfl rfl ?_
  refine zm_ga (f := 1) h rfl rfl (by decide) ?_
  refine zi_l rfl rfl rfl ?_
  by_cases q2 : zix l2 200
  case neg => rw [if_neg q2] at hk; cases hk
  rw [if_pos q2] at hk
  refine zm_ld (f := 1) h rfl (by decide) rfl q2 ?_
  refine zi_l rfl rfl rfl ?_
  refine zi_l rfl rfl rfl ?_
  refine zi_a (st' := .int 13 :: _) rfl rfl rfl ?_
  refine zi_ifd rfl rfl rfl (tgt := 90) (by decide) (fun c3 => ?_) (fun c3 => ?_)
  · rw [if_pos c3] at hk
    exact mT_begin_90 hq H_reckon hk h k
  · rw [if_neg c3] at hk
    refine zi_l rfl rfl rfl ?_
    refine zi_a (st' := .int 14 :: _) rfl rfl rfl ?_
    refine zi_ifd rfl rfl rfl (tgt := 90) (by decide) (fun c4 => ?_) (fun c4 => ?_)
    · rw [if_pos c4] at hk
      exact mT_begin_90 hq H_reckon hk h k
    · rw [if_neg c4] at hk
      refine zi_l rfl rfl rfl ?_
      refine zi_a (st' := .int 16 :: _) rfl rfl rfl ?_
      refine zi_ifd rfl rfl rfl (tgt := 90) (by decide) (fun c5 => ?_) (fun c5 => ?_)
      · rw [if_pos c5] at hk
        exact mT_begin_90 hq H_reckon hk h k
      · rw [if_neg c5] at hk
        refine zi_l rfl rfl rfl ?_
        refine zi_a (st' := .int 17 :: _) rfl rfl rfl ?_
        refine zi_ifd rfl rfl rfl (tgt := 90) (by decide) (fun c6 => ?_) (fun c6 => ?_)
        · rw [if_pos c6] at hk
          exact mT_begin_90 hq H_reckon hk h k
        · rw [if_neg c6] at hk
          refine zi_l rfl rfl rfl ?_
          refine zi_a (st' := .int 18 :: _) rfl rfl rfl ?_
          refine zi_ifd rfl rfl rfl (tgt := 94) (by decide) (fun c7 => ?_) (fun c7 => ?_)
          · rw [if_pos c7] at hk
            refine zi_a (st' := .int 0 :: _) rfl rfl rfl ?_
            exact mT_begin_95 hq H_reckon hk h k
          · rw [if_neg c7] at hk
            exact mT_begin_90 hq H_reckon hk h k
def mF_begin_32 (g_reckon : Int32 → mS → Option (Int64 × mS)) (l1 : Int32) (l2 : Int32) (μ : mS) : Option (Int32 × mS) :=
  if (μ.1 28 0) = 0 then (mF_begin_49 g_reckon l1 l2 (μ.1 27 0) (1 : Int32) μ) else (mF_begin_49 g_reckon l1 l2 (μ.1 27 0) (0 : Int32) μ)
theorem mT_begin_32 {S : zS} {q : Nat} {w w0 : zW} {Post : Option Value → zW → Prop} {m0 : Nat} {μ μ2 : mS} {v : Int32} {g_reckon : Int32 → mS → Option (Int64 × mS)} {l1 : Int32} {l2 : Int32} (hq : 3 ≤ q) (H_reckon : ∀ {x1 : Int32} {ν ν2 : mS} {y : Int64} {w : zW} {P : Option Value → zW → Prop}, g_reckon x1 ν = some (y, ν2) → mW m0 w0 ν w → (∀ w2, mW m0 w0 ν2 w2 → P (some (.long y)) w2) → zOk S q 85 0 (lv_args 0 [.ref m0, .int x1]) [] w P) (hk : mF_begin_32 g_reckon l1 l2 μ = some (v, μ2)) (h : mW m0 w0 μ w) (k : ∀ w2, mW m0 w0 μ2 w2 → Post (some (.int v)) w2) : zOk S (q + 1) 90 32 [(0, .ref m0), (1, .int l1), (2, .int l2)] [] w Post := by
  unfold mF_begin_32 at hk
  refine zi_l rfl rfl rfl ?_
  refine zi_a rfl rfl rfl ?_
  refine zm_g h rfl rfl rfl rfl ?_
  refine zi_l rfl rfl rfl ?_
  refine zm_g h rfl rfl rfl rfl ?_
  refine zi_ifd rfl rfl rfl (tgt := 48) (by decide) (fun c1 => ?_) (fun c1 => ?_)
  · rw [if_pos c1] at hk
    refine zi_a (st' := .int 1 :: _) rfl rfl rfl ?_
    exact mT_begin_49 hq H_reckon hk h k
  · rw [if_neg c1] at hk
    refine zi_a (st' := .int 0 :: _) rfl rfl rfl ?_
    refine zi_go rfl rfl rfl (tgt := 49) (by decide) ?_
    exact mT_begin_49 hq H_reckon hk h k
def mF_begin (g_reckon : Int32 → mS → Option (Int64 × mS)) (a1 : Int32) (μ : mS) : Option (Int32 × mS) :=
  if zix a1 500 then if ¬ (μ.1 28 0) = 0 then (mF_begin_32 g_reckon a1 (μ.1 10 (a1).toNatClampNeg) μ) else (if ¬ (μ.1 27 0) = (1000 : Int32) then (mF_begin_32 g_reckon a1 (μ.1 10 (a1).toNatClampNeg) μ) else (match mF_note (μ.1 10 (a1).toNatClampNeg) (2 : Int32) μ with | none => none | some (v5, m6) => some ((0 : Int32), m6))) else none
theorem mT_begin {S : zS} {q : Nat} {w w0 : zW} {Post : Option Value → zW → Prop} {m0 : Nat} {μ μ2 : mS} {v : Int32} {g_reckon : Int32 → mS → Option (Int64 × mS)} {a1 : Int32} (hq : 3 ≤ q) (H_reckon : ∀ {x1 : Int32} {ν ν2 : mS} {y : Int64} {w : zW} {P : Option Value → zW → Prop}, g_reckon x1 ν = some (y, ν2) → mW m0 w0 ν w → (∀ w2, mW m0 w0 ν2 w2 → P (some (.long y)) w2) → zOk S q 85 0 (lv_args 0 [.ref m0, .int x1]) [] w P) (hk : mF_begin g_reckon a1 μ = some (v, μ2)) (h : mW m0 w0 μ w) (k : ∀ w2, mW m0 w0 μ2 w2 → Post (some (.int v)) w2) : zOk S (q + 1) 90 0 (lv_args 0 [.ref m0, .int a1]) [] w Post := by
  unfold mF_begin at hk
  refine zi_l rfl rfl rfl ?_
  refine zm_ga (f := 10) h rfl rfl (by decide) ?_
  refine zi_l rfl rfl rfl ?_
  by_cases q1 : zix a1 500
  case neg => rw [if_neg q1] at hk; cases hk
  rw [if_pos q1] at hk
  refine zm_ld (f := 10) h rfl (by decide) rfl q1 ?_
  refine zi_l rfl rfl rfl ?_
  refine zi_l rfl rfl rfl ?_
  refine zm_g h rfl rfl rfl rfl ?_
  refine zi_ifd rfl rfl rfl (tgt := 32) (by decide) (fun c2 => ?_) (fun c2 => ?_)
  · rw [if_pos c2] at hk
    exact mT_begin_32 hq H_reckon hk h k
  · rw [if_neg c2] at hk
    refine zi_l rfl rfl rfl ?_
    refine zm_g h rfl rfl rfl rfl ?_
    refine zi_a (st' := .int 1000 :: _) rfl rfl rfl ?_
    refine zi_ifd rfl rfl rfl (tgt := 32) (by decide) (fun c3 => ?_) (fun c3 => ?_)
    · rw [if_pos c3] at hk
      exact mT_begin_32 hq H_reckon hk h k
    · rw [if_neg c3] at hk
      refine zi_l rfl rfl rfl ?_
      refine zi_l rfl rfl rfl ?_
      refine zi_a (st' := .int 2 :: _) rfl rfl rfl ?_
      cases c4 : mF_note (μ.1 10 (a1).toNatClampNeg) (2 : Int32) μ with
      | none => rw [c4] at hk; cases hk
      | some q1 =>
        obtain ⟨v5, m6⟩ := q1
        rw [c4] at hk
        dsimp only at hk
        refine zm_c h rfl rfl rfl rfl rfl rfl ((mT_note (q := 0) (Nat.le_refl _) c4 h (fun w h => ?_)).deep (by omega))
        refine zi_a (st' := .int 0 :: _) rfl rfl rfl ?_
        cases hk
        exact zi_rz rfl rfl (Or.inl rfl) (k w h)
