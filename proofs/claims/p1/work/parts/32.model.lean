/-! the reference decompiled: functions over its state, and that its code runs them (by wip/whole/gen4.py) -/
def mF_isPlace (a1 : Int32) (μ : mS) : Option (Int32 × mS) :=
  if a1 < 0 then (some ((0 : Int32), μ)) else (if (16 : Int32) ≤ a1 then (some ((0 : Int32), μ)) else (some ((1 : Int32), μ)))
theorem mT_isPlace {S : zS} {q : Nat} {w w0 : zW} {Post : Option Value → zW → Prop} {m0 : Nat} {μ μ2 : mS} {v : Int32} {a1 : Int32} (hq : 0 ≤ q) (hk : mF_isPlace a1 μ = some (v, μ2)) (h : mW m0 w0 μ w) (k : ∀ w2, mW m0 w0 μ2 w2 → Post (some (.int v)) w2) : zOk S (q + 1) 76 0 (lv_args 0 [.int a1]) [] w Post := by
  unfold mF_isPlace at hk
  refine zi_l rfl rfl rfl ?_
  refine zi_ifd rfl rfl rfl (tgt := 14) (by decide) (fun c1 => ?_) (fun c1 => ?_)
  · rw [if_pos c1] at hk
    refine zi_a (st' := .int 0 :: _) rfl rfl rfl ?_
    cases hk
    exact zi_rz rfl rfl (Or.inl rfl) (k w h)
  · rw [if_neg c1] at hk
    refine zi_l rfl rfl rfl ?_
    refine zi_a (st' := .int 16 :: _) rfl rfl rfl ?_
    refine zi_ifd rfl rfl rfl (tgt := 14) (by decide) (fun c2 => ?_) (fun c2 => ?_)
    · rw [if_pos c2] at hk
      refine zi_a (st' := .int 0 :: _) rfl rfl rfl ?_
      cases hk
      exact zi_rz rfl rfl (Or.inl rfl) (k w h)
    · rw [if_neg c2] at hk
      refine zi_a (st' := .int 1 :: _) rfl rfl rfl ?_
      refine zi_go rfl rfl rfl (tgt := 15) (by decide) ?_
      cases hk
      exact zi_rz rfl rfl (Or.inr rfl) (k w h)
def mF_isNode (a1 : Int32) (μ : mS) : Option (Int32 × mS) :=
  if a1 < 0 then (some ((0 : Int32), μ)) else (if (μ.1 0 0) ≤ a1 then (some ((0 : Int32), μ)) else (some ((1 : Int32), μ)))
theorem mT_isNode {S : zS} {q : Nat} {w w0 : zW} {Post : Option Value → zW → Prop} {m0 : Nat} {μ μ2 : mS} {v : Int32} {a1 : Int32} (hq : 0 ≤ q) (hk : mF_isNode a1 μ = some (v, μ2)) (h : mW m0 w0 μ w) (k : ∀ w2, mW m0 w0 μ2 w2 → Post (some (.int v)) w2) : zOk S (q + 1) 75 0 (lv_args 0 [.ref m0, .int a1]) [] w Post := by
  unfold mF_isNode at hk
  refine zi_l rfl rfl rfl ?_
  refine zi_ifd rfl rfl rfl (tgt := 16) (by decide) (fun c1 => ?_) (fun c1 => ?_)
  · rw [if_pos c1] at hk
    refine zi_a (st' := .int 0 :: _) rfl rfl rfl ?_
    cases hk
    exact zi_rz rfl rfl (Or.inl rfl) (k w h)
  · rw [if_neg c1] at hk
    refine zi_l rfl rfl rfl ?_
    refine zi_l rfl rfl rfl ?_
    refine zm_g h rfl rfl rfl rfl ?_
    refine zi_ifd rfl rfl rfl (tgt := 16) (by decide) (fun c2 => ?_) (fun c2 => ?_)
    · rw [if_pos c2] at hk
      refine zi_a (st' := .int 0 :: _) rfl rfl rfl ?_
      cases hk
      exact zi_rz rfl rfl (Or.inl rfl) (k w h)
    · rw [if_neg c2] at hk
      refine zi_a (st' := .int 1 :: _) rfl rfl rfl ?_
      refine zi_go rfl rfl rfl (tgt := 17) (by decide) ?_
      cases hk
      exact zi_rz rfl rfl (Or.inr rfl) (k w h)
def mF_isValue_29 (l1 : Int32) (μ : mS) : Option (Int32 × mS) :=
  some ((1 : Int32), μ)
theorem mT_isValue_29 {S : zS} {q : Nat} {w w0 : zW} {Post : Option Value → zW → Prop} {m0 : Nat} {μ μ2 : mS} {v : Int32} {l1 : Int32} (hq : 1 ≤ q) (hk : mF_isValue_29 l1 μ = some (v, μ2)) (h : mW m0 w0 μ w) (k : ∀ w2, mW m0 w0 μ2 w2 → Post (some (.int v)) w2) : zOk S (q + 1) 77 29 [(0, .ref m0), (1, .int l1)] [] w Post := by
  unfold mF_isValue_29 at hk
  refine zi_a (st' := .int 1 :: _) rfl rfl rfl ?_
  refine zi_go rfl rfl rfl (tgt := 34) (by decide) ?_
  cases hk
  exact zi_rz rfl rfl (Or.inr rfl) (k w h)
def mF_isValue (a1 : Int32) (μ : mS) : Option (Int32 × mS) :=
  match mF_isNode a1 μ with | none => none | some (v2, m3) => if v2 = 0 then (some ((0 : Int32), m3)) else (if zix a1 200 then if (100 : Int32) ≤ (m3.1 1 (a1).toNatClampNeg) then (mF_isValue_29  a1 m3) else (if zix a1 200 then if (5 : Int32) < (m3.1 1 (a1).toNatClampNeg) then (some ((0 : Int32), m3)) else (mF_isValue_29  a1 m3) else none) else none)
theorem mT_isValue {S : zS} {q : Nat} {w w0 : zW} {Post : Option Value → zW → Prop} {m0 : Nat} {μ μ2 : mS} {v : Int32} {a1 : Int32} (hq : 1 ≤ q) (hk : mF_isValue a1 μ = some (v, μ2)) (h : mW m0 w0 μ w) (k : ∀ w2, mW m0 w0 μ2 w2 → Post (some (.int v)) w2) : zOk S (q + 1) 77 0 (lv_args 0 [.ref m0, .int a1]) [] w Post := by
  unfold mF_isValue at hk
  refine zi_l rfl rfl rfl ?_
  refine zi_l rfl rfl rfl ?_
  cases c1 : mF_isNode a1 μ with
  | none => rw [c1] at hk; cases hk
  | some q1 =>
    obtain ⟨v2, m3⟩ := q1
    rw [c1] at hk
    dsimp only at hk
    refine zm_c h rfl rfl rfl rfl rfl rfl ((mT_isNode (q := 0) (Nat.le_refl _) c1 h (fun w h => ?_)).deep (by omega))
    refine zi_ifd rfl rfl rfl (tgt := 33) (by decide) (fun c4 => ?_) (fun c4 => ?_)
    · rw [if_pos c4] at hk
      refine zi_a (st' := .int 0 :: _) rfl rfl rfl ?_
      cases hk
      exact zi_rz rfl rfl (Or.inl rfl) (k w h)
    · rw [if_neg c4] at hk
      refine zi_l rfl rfl rfl ?_
      refine zm_ga (f := 1) h rfl rfl (by decide) ?_
      refine zi_l rfl rfl rfl ?_
      by_cases q5 : zix a1 200
      case neg => rw [if_neg q5] at hk; cases hk
      rw [if_pos q5] at hk
      refine zm_ld (f := 1) h rfl (by decide) rfl q5 ?_
      refine zi_a (st' := .int 100 :: _) rfl rfl rfl ?_
      refine zi_ifd rfl rfl rfl (tgt := 29) (by decide) (fun c6 => ?_) (fun c6 => ?_)
      · rw [if_pos c6] at hk
        exact mT_isValue_29 hq hk h k
      · rw [if_neg c6] at hk
        refine zi_l rfl rfl rfl ?_
        refine zm_ga (f := 1) h rfl rfl (by decide) ?_
        refine zi_l rfl rfl rfl ?_
        by_cases q7 : zix a1 200
        case neg => rw [if_neg q7] at hk; cases hk
        rw [if_pos q7] at hk
        refine zm_ld (f := 1) h rfl (by decide) rfl q7 ?_
        refine zi_a (st' := .int 5 :: _) rfl rfl rfl ?_
        refine zi_ifd rfl rfl rfl (tgt := 33) (by decide) (fun c8 => ?_) (fun c8 => ?_)
        · rw [if_pos c8] at hk
          refine zi_a (st' := .int 0 :: _) rfl rfl rfl ?_
          cases hk
          exact zi_rz rfl rfl (Or.inl rfl) (k w h)
        · rw [if_neg c8] at hk
          exact mT_isValue_29 hq hk h k
def mF_isStatement (a1 : Int32) (μ : mS) : Option (Int32 × mS) :=
  match mF_isNode a1 μ with | none => none | some (v2, m3) => if v2 = 0 then (some ((0 : Int32), m3)) else (if zix a1 200 then if (m3.1 1 (a1).toNatClampNeg) < (10 : Int32) then (some ((0 : Int32), m3)) else (if zix a1 200 then if (21 : Int32) < (m3.1 1 (a1).toNatClampNeg) then (some ((0 : Int32), m3)) else (some ((1 : Int32), m3)) else none) else none)
theorem mT_isStatement {S : zS} {q : Nat} {w w0 : zW} {Post : Option Value → zW → Prop} {m0 : Nat} {μ μ2 : mS} {v : Int32} {a1 : Int32} (hq : 1 ≤ q) (hk : mF_isStatement a1 μ = some (v, μ2)) (h : mW m0 w0 μ w) (k : ∀ w2, mW m0 w0 μ2 w2 → Post (some (.int v)) w2) : zOk S (q + 1) 74 0 (lv_args 0 [.ref m0, .int a1]) [] w Post := by
  unfold mF_isStatement at hk
  refine zi_l rfl rfl rfl ?_
  refine zi_l rfl rfl rfl ?_
  cases c1 : mF_isNode a1 μ with
  | none => rw [c1] at hk; cases hk
  | some q1 =>
    obtain ⟨v2, m3⟩ := q1
    rw [c1] at hk
    dsimp only at hk
    refine zm_c h rfl rfl rfl rfl rfl rfl ((mT_isNode (q := 0) (Nat.le_refl _) c1 h (fun w h => ?_)).deep (by omega))
    refine zi_ifd rfl rfl rfl (tgt := 34) (by decide) (fun c4 => ?_) (fun c4 => ?_)
    · rw [if_pos c4] at hk
      refine zi_a (st' := .int 0 :: _) rfl rfl rfl ?_
      cases hk
      exact zi_rz rfl rfl (Or.inl rfl) (k w h)
    · rw [if_neg c4] at hk
      refine zi_l rfl rfl rfl ?_
      refine zm_ga (f := 1) h rfl rfl (by decide) ?_
      refine zi_l rfl rfl rfl ?_
      by_cases q5 : zix a1 200
      case neg => rw [if_neg q5] at hk; cases hk
      rw [if_pos q5] at hk
      refine zm_ld (f := 1) h rfl (by decide) rfl q5 ?_
      refine zi_a (st' := .int 10 :: _) rfl rfl rfl ?_
      refine zi_ifd rfl rfl rfl (tgt := 34) (by decide) (fun c6 => ?_) (fun c6 => ?_)
      · rw [if_pos c6] at hk
        refine zi_a (st' := .int 0 :: _) rfl rfl rfl ?_
        cases hk
        exact zi_rz rfl rfl (Or.inl rfl) (k w h)
      · rw [if_neg c6] at hk
        refine zi_l rfl rfl rfl ?_
        refine zm_ga (f := 1) h rfl rfl (by decide) ?_
        refine zi_l rfl rfl rfl ?_
        by_cases q7 : zix a1 200
        case neg => rw [if_neg q7] at hk; cases hk
        rw [if_pos q7] at hk
        refine zm_ld (f := 1) h rfl (by decide) rfl q7 ?_
        refine zi_a (st' := .int 21 :: _) rfl rfl rfl ?_
        refine zi_ifd rfl rfl rfl (tgt := 34) (by decide) (fun c8 => ?_) (fun c8 => ?_)
        · rw [if_pos c8] at hk
          refine zi_a (st' := .int 0 :: _) rfl rfl rfl ?_
          cases hk
          exact zi_rz rfl rfl (Or.inl rfl) (k w h)
        · rw [if_neg c8] at hk
          refine zi_a (st' := .int 1 :: _) rfl rfl rfl ?_
          refine zi_go rfl rfl rfl (tgt := 35) (by decide) ?_
          cases hk
          exact zi_rz rfl rfl (Or.inr rfl) (k w h)
def mF_depth (a1 : Int32) (μ : mS) : Option (Int32 × mS) :=
  if ¬ a1 = (-1 : Int32) then (if zix a1 200 then some ((μ.1 6 (a1).toNatClampNeg), μ) else none) else (some ((0 : Int32), μ))
theorem mT_depth {S : zS} {q : Nat} {w w0 : zW} {Post : Option Value → zW → Prop} {m0 : Nat} {μ μ2 : mS} {v : Int32} {a1 : Int32} (hq : 0 ≤ q) (hk : mF_depth a1 μ = some (v, μ2)) (h : mW m0 w0 μ w) (k : ∀ w2, mW m0 w0 μ2 w2 → Post (some (.int v)) w2) : zOk S (q + 1) 78 0 (lv_args 0 [.ref m0, .int a1]) [] w Post := by
  unfold mF_depth at hk
  refine zi_l rfl rfl rfl ?_
  refine zi_a (st' := .int (-1) :: _) rfl rfl rfl ?_
  refine zi_ifd rfl rfl rfl (tgt := 9) (by decide) (fun c1 => ?_) (fun c1 => ?_)
  · rw [if_pos c1] at hk
    refine zi_l rfl rfl rfl ?_
    refine zm_ga (f := 6) h rfl rfl (by decide) ?_
    refine zi_l rfl rfl rfl ?_
    by_cases q2 : zix a1 200
    case neg => rw [if_neg q2] at hk; cases hk
    rw [if_pos q2] at hk
    refine zm_ld (f := 6) h rfl (by decide) rfl q2 ?_
    cases hk
    exact zi_ri rfl rfl (k w h)
  · rw [if_neg c1] at hk
    refine zi_a (st' := .int 0 :: _) rfl rfl rfl ?_
    refine zi_go rfl rfl rfl (tgt := 15) (by decide) ?_
    cases hk
    exact zi_ri rfl rfl (k w h)
def mF_signal (a1 : Int32) (a2 : Int64) (μ : mS) : Option (Int32 × mS) :=
  match mF_isPlace a1 μ with | none => none | some (v2, m3) => if ¬ v2 = 0 then (if zix a1 16 then mPut (mu2 m3 19 (a1).toNatClampNeg a2) fun m6 => some ((1 : Int32), m6) else none) else (some ((0 : Int32), m3))
theorem mT_signal {S : zS} {q : Nat} {w w0 : zW} {Post : Option Value → zW → Prop} {m0 : Nat} {μ μ2 : mS} {v : Int32} {a1 : Int32} {a2 : Int64} (hq : 1 ≤ q) (hk : mF_signal a1 a2 μ = some (v, μ2)) (h : mW m0 w0 μ w) (k : ∀ w2, mW m0 w0 μ2 w2 → Post (some (.int v)) w2) : zOk S (q + 1) 79 0 (lv_args 0 [.ref m0, .int a1, .long a2]) [] w Post := by
  unfold mF_signal at hk
  refine zi_l rfl rfl rfl ?_
  cases c1 : mF_isPlace a1 μ with
  | none => rw [c1] at hk; cases hk
  | some q1 =>
    obtain ⟨v2, m3⟩ := q1
    rw [c1] at hk
    dsimp only at hk
    refine zi_s rfl rfl rfl rfl rfl ((mT_isPlace (q := 0) (Nat.le_refl _) c1 h (fun w h => ?_)).deep (by omega))
    refine zi_ifd rfl rfl rfl (tgt := 9) (by decide) (fun c4 => ?_) (fun c4 => ?_)
    · rw [if_pos c4] at hk
      refine zi_l rfl rfl rfl ?_
      refine zm_ga (f := 19) h rfl rfl (by decide) ?_
      refine zi_l rfl rfl rfl ?_
      refine zi_l rfl rfl rfl ?_
      by_cases q5 : zix a1 16
      case neg => rw [if_neg q5] at hk; cases hk
      rw [if_pos q5] at hk
      refine zm_sl (f := 19) h rfl (by decide) rfl q5 (fun w h => ?_)
      generalize mu2 m3 19 (a1).toNatClampNeg a2 = m6 at h hk
      rw [mPut_eq] at hk
      refine zi_a (st' := .int 1 :: _) rfl rfl rfl ?_
      cases hk
      exact zi_rz rfl rfl (Or.inr rfl) (k w h)
    · rw [if_neg c4] at hk
      refine zi_a (st' := .int 0 :: _) rfl rfl rfl ?_
      cases hk
      exact zi_rz rfl rfl (Or.inl rfl) (k w h)
def mF_value (a1 : Int32) (μ : mS) : Option (Int64 × mS) :=
  match mF_isPlace a1 μ with | none => none | some (v2, m3) => if v2 = 0 then (some ((0 : Int64), m3)) else (if zix a1 16 then some ((m3.2 20 (a1).toNatClampNeg), m3) else none)
theorem mT_value {S : zS} {q : Nat} {w w0 : zW} {Post : Option Value → zW → Prop} {m0 : Nat} {μ μ2 : mS} {v : Int64} {a1 : Int32} (hq : 1 ≤ q) (hk : mF_value a1 μ = some (v, μ2)) (h : mW m0 w0 μ w) (k : ∀ w2, mW m0 w0 μ2 w2 → Post (some (.long v)) w2) : zOk S (q + 1) 107 0 (lv_args 0 [.ref m0, .int a1]) [] w Post := by
  unfold mF_value at hk
  refine zi_l rfl rfl rfl ?_
  cases c1 : mF_isPlace a1 μ with
  | none => rw [c1] at hk; cases hk
  | some q1 =>
    obtain ⟨v2, m3⟩ := q1
    rw [c1] at hk
    dsimp only at hk
    refine zi_s rfl rfl rfl rfl rfl ((mT_isPlace (q := 0) (Nat.le_refl _) c1 h (fun w h => ?_)).deep (by omega))
    refine zi_ifd rfl rfl rfl (tgt := 16) (by decide) (fun c4 => ?_) (fun c4 => ?_)
    · rw [if_pos c4] at hk
      refine zi_a (st' := .long 0 :: _) rfl rfl rfl ?_
      cases hk
      exact zi_rl rfl rfl (k w h)
    · rw [if_neg c4] at hk
      refine zi_l rfl rfl rfl ?_
      refine zm_ga (f := 20) h rfl rfl (by decide) ?_
      refine zi_l rfl rfl rfl ?_
      by_cases q5 : zix a1 16
      case neg => rw [if_neg q5] at hk; cases hk
      rw [if_pos q5] at hk
      refine zm_ll (f := 20) h rfl (by decide) rfl q5 ?_
      refine zi_go rfl rfl rfl (tgt := 17) (by decide) ?_
      cases hk
      exact zi_rl rfl rfl (k w h)
def mF_safe (a1 : Int32) (a2 : Int64) (μ : mS) : Option (Int32 × mS) :=
  match mF_isPlace a1 μ with | none => none | some (v2, m3) => if ¬ v2 = 0 then (if zix a1 16 then mPut (mu2 m3 22 (a1).toNatClampNeg a2) fun m6 => if zix a1 16 then mPut (mu1 m6 23 (a1).toNatClampNeg (1 : Int32)) fun m8 => some ((1 : Int32), m8) else none else none) else (some ((0 : Int32), m3))
theorem mT_safe {S : zS} {q : Nat} {w w0 : zW} {Post : Option Value → zW → Prop} {m0 : Nat} {μ μ2 : mS} {v : Int32} {a1 : Int32} {a2 : Int64} (hq : 1 ≤ q) (hk : mF_safe a1 a2 μ = some (v, μ2)) (h : mW m0 w0 μ w) (k : ∀ w2, mW m0 w0 μ2 w2 → Post (some (.int v)) w2) : zOk S (q + 1) 108 0 (lv_args 0 [.ref m0, .int a1, .long a2]) [] w Post := by
  unfold mF_safe at hk
  refine zi_l rfl rfl rfl ?_
  cases c1 : mF_isPlace a1 μ with
  | none => rw [c1] at hk; cases hk
  | some q1 =>
    obtain ⟨v2, m3⟩ := q1
    rw [c1] at hk
    dsimp only at hk
    refine zi_s rfl rfl rfl rfl rfl ((mT_isPlace (q := 0) (Nat.le_refl _) c1 h (fun w h => ?_)).deep (by omega))
    refine zi_ifd rfl rfl rfl (tgt := 9) (by decide) (fun c4 => ?_) (fun c4 => ?_)
    · rw [if_pos c4] at hk
      refine zi_l rfl rfl rfl ?_
      refine zm_ga (f := 22) h rfl rfl (by decide) ?_
      refine zi_l rfl rfl rfl ?_
      refine zi_l rfl rfl rfl ?_
      by_cases q5 : zix a1 16
      case neg => rw [if_neg q5] at hk; cases hk
      rw [if_pos q5] at hk
      refine zm_sl (f := 22) h rfl (by decide) rfl q5 (fun w h => ?_)
      generalize mu2 m3 22 (a1).toNatClampNeg a2 = m6 at h hk
      rw [mPut_eq] at hk
      refine zi_l rfl rfl rfl ?_
      refine zm_ga (f := 23) h rfl rfl (by decide) ?_
      refine zi_l rfl rfl rfl ?_
      refine zi_a (st' := .int 1 :: _) rfl rfl rfl ?_
      by_cases q7 : zix a1 16
      case neg => rw [if_neg q7] at hk; cases hk
      rw [if_pos q7] at hk
      refine zm_sz (f := 23) h rfl (by decide) rfl rfl q7 (fun w h => ?_)
      generalize mu1 m6 23 (a1).toNatClampNeg (1 : Int32) = m8 at h hk
      rw [mPut_eq] at hk
      refine zi_a (st' := .int 1 :: _) rfl rfl rfl ?_
      cases hk
      exact zi_rz rfl rfl (Or.inr rfl) (k w h)
    · rw [if_neg c4] at hk
      refine zi_a (st' := .int 0 :: _) rfl rfl rfl ?_
      cases hk
      exact zi_rz rfl rfl (Or.inl rfl) (k w h)
def mF_output_42 (l1 : Int32) (μ : mS) : Option (Int64 × mS) :=
  if zix l1 16 then some ((μ.2 21 (l1).toNatClampNeg), μ) else none
theorem mT_output_42 {S : zS} {q : Nat} {w w0 : zW} {Post : Option Value → zW → Prop} {m0 : Nat} {μ μ2 : mS} {v : Int64} {l1 : Int32} (hq : 1 ≤ q) (hk : mF_output_42 l1 μ = some (v, μ2)) (h : mW m0 w0 μ w) (k : ∀ w2, mW m0 w0 μ2 w2 → Post (some (.long v)) w2) : zOk S (q + 1) 98 42 [(0, .ref m0), (1, .int l1)] [] w Post := by
  unfold mF_output_42 at hk
  refine zi_l rfl rfl rfl ?_
  refine zm_ga (f := 21) h rfl rfl (by decide) ?_
  refine zi_l rfl rfl rfl ?_
  by_cases q1 : zix l1 16
  case neg => rw [if_neg q1] at hk; cases hk
  rw [if_pos q1] at hk
  refine zm_ll (f := 21) h rfl (by decide) rfl q1 ?_
  cases hk
  exact zi_rl rfl rfl (k w h)
def mF_output (a1 : Int32) (μ : mS) : Option (Int64 × mS) :=
  match mF_isPlace a1 μ with | none => none | some (v2, m3) => if ¬ v2 = 0 then (if (m3.1 24 0) = 0 then (mF_output_42  a1 m3) else (if ¬ (m3.1 25 0) = (2 : Int32) then (mF_output_42  a1 m3) else (if zix a1 16 then if (m3.1 23 (a1).toNatClampNeg) = 0 then (mF_output_42  a1 m3) else (if zix a1 16 then some ((m3.2 22 (a1).toNatClampNeg), m3) else none) else none))) else (some ((0 : Int64), m3))
theorem mT_output {S : zS} {q : Nat} {w w0 : zW} {Post : Option Value → zW → Prop} {m0 : Nat} {μ μ2 : mS} {v : Int64} {a1 : Int32} (hq : 1 ≤ q) (hk : mF_output a1 μ = some (v, μ2)) (h : mW m0 w0 μ w) (k : ∀ w2, mW m0 w0 μ2 w2 → Post (some (.long v)) w2) : zOk S (q + 1) 98 0 (lv_args 0 [.ref m0, .int a1]) [] w Post := by
  unfold mF_output at hk
  refine zi_l rfl rfl rfl ?_
  cases c1 : mF_isPlace a1 μ with
  | none => rw [c1] at hk; cases hk
  | some q1 =>
    obtain ⟨v2, m3⟩ := q1
    rw [c1] at hk
    dsimp only at hk
    refine zi_s rfl rfl rfl rfl rfl ((mT_isPlace (q := 0) (Nat.le_refl _) c1 h (fun w h => ?_)).deep (by omega))
    refine zi_ifd rfl rfl rfl (tgt := 9) (by decide) (fun c4 => ?_) (fun c4 => ?_)
    · rw [if_pos c4] at hk
      refine zi_l rfl rfl rfl ?_
      refine zm_g h rfl rfl rfl rfl ?_
      refine zi_ifd rfl rfl rfl (tgt := 42) (by decide) (fun c5 => ?_) (fun c5 => ?_)
      · rw [if_pos c5] at hk
        exact mT_output_42 hq hk h k
      · rw [if_neg c5] at hk
        refine zi_l rfl rfl rfl ?_
        refine zm_g h rfl rfl rfl rfl ?_
        refine zi_a (st' := .int 2 :: _) rfl rfl rfl ?_
        refine zi_ifd rfl rfl rfl (tgt := 42) (by decide) (fun c6 => ?_) (fun c6 => ?_)
        · rw [if_pos c6] at hk
          exact mT_output_42 hq hk h k
        · rw [if_neg c6] at hk
          refine zi_l rfl rfl rfl ?_
          refine zm_ga (f := 23) h rfl rfl (by decide) ?_
          refine zi_l rfl rfl rfl ?_
          by_cases q7 : zix a1 16
          case neg => rw [if_neg q7] at hk; cases hk
          rw [if_pos q7] at hk
          refine zm_lz (f := 23) h rfl (by decide) rfl q7 ?_
          refine zi_ifd rfl rfl rfl (tgt := 42) (by decide) (fun c8 => ?_) (fun c8 => ?_)
          · rw [if_pos c8] at hk
            exact mT_output_42 hq hk h k
          · rw [if_neg c8] at hk
            refine zi_l rfl rfl rfl ?_
            refine zm_ga (f := 22) h rfl rfl (by decide) ?_
            refine zi_l rfl rfl rfl ?_
            by_cases q9 : zix a1 16
            case neg => rw [if_neg q9] at hk; cases hk
            rw [if_pos q9] at hk
            refine zm_ll (f := 22) h rfl (by decide) rfl q9 ?_
            refine zi_go rfl rfl rfl (tgt := 48) (by decide) ?_
            cases hk
            exact zi_rl rfl rfl (k w h)
    · rw [if_neg c4] at hk
      refine zi_a (st' := .long 0 :: _) rfl rfl rfl ?_
      cases hk
      exact zi_rl rfl rfl (k w h)
def mF_note (a1 : Int32) (a2 : Int32) (μ : mS) : Option (Unit × mS) :=
  if (200 : Int32) ≤ (μ.1 30 0) then (some ((), μ)) else (if zix (μ.1 30 0) 200 then mPut (mu1 μ 31 ((μ.1 30 0)).toNatClampNeg ((μ.2 26 0)).toInt32) fun m3 => if zix (m3.1 30 0) 200 then mPut (mu1 m3 32 ((m3.1 30 0)).toNatClampNeg a1) fun m5 => if zix (m5.1 30 0) 200 then mPut (mu1 m5 33 ((m5.1 30 0)).toNatClampNeg a2) fun m7 => mPut (mu1 m7 30 0 ((m7.1 30 0) + (1 : Int32))) fun m8 => some ((), m8) else none else none else none)
theorem mT_note {S : zS} {q : Nat} {w w0 : zW} {Post : Option Value → zW → Prop} {m0 : Nat} {μ μ2 : mS} {v : Unit} {a1 : Int32} {a2 : Int32} (hq : 0 ≤ q) (hk : mF_note a1 a2 μ = some (v, μ2)) (h : mW m0 w0 μ w) (k : ∀ w2, mW m0 w0 μ2 w2 → Post none w2) : zOk S (q + 1) 87 0 (lv_args 0 [.ref m0, .int a1, .int a2]) [] w Post := by
  unfold mF_note at hk
  refine zi_l rfl rfl rfl ?_
  refine zm_g h rfl rfl rfl rfl ?_
  refine zi_a (st' := .int 200 :: _) rfl rfl rfl ?_
  refine zi_ifd rfl rfl rfl (tgt := 54) (by decide) (fun c1 => ?_) (fun c1 => ?_)
  · rw [if_pos c1] at hk
    cases hk
    exact zi_ret rfl rfl rfl (k w h)
  · rw [if_neg c1] at hk
    refine zi_l rfl rfl rfl ?_
    refine zm_ga (f := 31) h rfl rfl (by decide) ?_
    refine zi_l rfl rfl rfl ?_
    refine zm_g h rfl rfl rfl rfl ?_
    refine zi_l rfl rfl rfl ?_
    refine zm_gl h rfl rfl rfl rfl ?_
    refine zi_a rfl rfl rfl ?_
    by_cases q2 : zix (μ.1 30 0) 200
    case neg => rw [if_neg q2] at hk; cases hk
    rw [if_pos q2] at hk
    refine zm_st (f := 31) h rfl (by decide) rfl q2 (fun w h => ?_)
    generalize mu1 μ 31 ((μ.1 30 0)).toNatClampNeg ((μ.2 26 0)).toInt32 = m3 at h hk
    rw [mPut_eq] at hk
    refine zi_l rfl rfl rfl ?_
    refine zm_ga (f := 32) h rfl rfl (by decide) ?_
    refine zi_l rfl rfl rfl ?_
    refine zm_g h rfl rfl rfl rfl ?_
    refine zi_l rfl rfl rfl ?_
    by_cases q4 : zix (m3.1 30 0) 200
    case neg => rw [if_neg q4] at hk; cases hk
    rw [if_pos q4] at hk
    refine zm_st (f := 32) h rfl (by decide) rfl q4 (fun w h => ?_)
    generalize mu1 m3 32 ((m3.1 30 0)).toNatClampNeg a1 = m5 at h hk
    rw [mPut_eq] at hk
    refine zi_l rfl rfl rfl ?_
    refine zm_ga (f := 33) h rfl rfl (by decide) ?_
    refine zi_l rfl rfl rfl ?_
    refine zm_g h rfl rfl rfl rfl ?_
    refine zi_l rfl rfl rfl ?_
    by_cases q6 : zix (m5.1 30 0) 200
    case neg => rw [if_neg q6] at hk; cases hk
    rw [if_pos q6] at hk
    refine zm_st (f := 33) h rfl (by decide) rfl q6 (fun w h => ?_)
    generalize mu1 m5 33 ((m5.1 30 0)).toNatClampNeg a2 = m7 at h hk
    rw [mPut_eq] at hk
    refine zi_l rfl rfl rfl ?_
    refine zi_a rfl rfl rfl ?_
    refine zm_g h rfl rfl rfl rfl ?_
    refine zi_a (st' := .int 1 :: _) rfl rfl rfl ?_
    refine zi_a rfl rfl rfl ?_
    refine zm_p h rfl rfl rfl rfl ⟨rfl, rfl, Or.inl rfl⟩ (fun w h => ?_)
    generalize mu1 m7 30 0 ((m7.1 30 0) + (1 : Int32)) = m8 at h hk
    rw [mPut_eq] at hk
    cases hk
    exact zi_ret rfl rfl rfl (k w h)
def mF_isBad (μ : mS) : Option (Int32 × mS) :=
  if 0 ≤ (μ.1 29 0) then (match mF_note (μ.1 29 0) (1 : Int32) μ with | none => none | some (v3, m4) => mPut (mu1 m4 29 0 (-1 : Int32)) fun m5 => some ((1 : Int32), m5)) else (some ((0 : Int32), μ))
theorem mT_isBad {S : zS} {q : Nat} {w w0 : zW} {Post : Option Value → zW → Prop} {m0 : Nat} {μ μ2 : mS} {v : Int32} (hq : 1 ≤ q) (hk : mF_isBad  μ = some (v, μ2)) (h : mW m0 w0 μ w) (k : ∀ w2, mW m0 w0 μ2 w2 → Post (some (.int v)) w2) : zOk S (q + 1) 86 0 (lv_args 0 [.ref m0]) [] w Post := by
  unfold mF_isBad at hk
  refine zi_l rfl rfl rfl ?_
  refine zm_g h rfl rfl rfl rfl ?_
  refine zi_ifd rfl rfl rfl (tgt := 9) (by decide) (fun c1 => ?_) (fun c1 => ?_)
  · rw [if_pos c1] at hk
    refine zi_l rfl rfl rfl ?_
    refine zi_l rfl rfl rfl ?_
    refine zm_g h rfl rfl rfl rfl ?_
    refine zi_a (st' := .int 1 :: _) rfl rfl rfl ?_
    cases c2 : mF_note (μ.1 29 0) (1 : Int32) μ with
    | none => rw [c2] at hk; cases hk
    | some q1 =>
      obtain ⟨v3, m4⟩ := q1
      rw [c2] at hk
      dsimp only at hk
      refine zm_c h rfl rfl rfl rfl rfl rfl ((mT_note (q := 0) (Nat.le_refl _) c2 h (fun w h => ?_)).deep (by omega))
      refine zi_l rfl rfl rfl ?_
      refine zi_a (st' := .int (-1) :: _) rfl rfl rfl ?_
      refine zm_p h rfl rfl rfl rfl ⟨rfl, rfl, Or.inl rfl⟩ (fun w h => ?_)
      generalize mu1 m4 29 0 (-1 : Int32) = m5 at h hk
      rw [mPut_eq] at hk
      refine zi_a (st' := .int 1 :: _) rfl rfl rfl ?_
      cases hk
      exact zi_rz rfl rfl (Or.inr rfl) (k w h)
  · rw [if_neg c1] at hk
    refine zi_a (st' := .int 0 :: _) rfl rfl rfl ?_
    cases hk
    exact zi_rz rfl rfl (Or.inl rfl) (k w h)
def mF_close_20 (l1 : Int32) (μ : mS) : Option (Unit × mS) :=
  mPut (mu1 μ 34 0 ((μ.1 34 0) + (1 : Int32))) fun m1 => some ((), m1)
theorem mT_close_20 {S : zS} {q : Nat} {w w0 : zW} {Post : Option Value → zW → Prop} {m0 : Nat} {μ μ2 : mS} {v : Unit} {l1 : Int32} (hq : 0 ≤ q) (hk : mF_close_20 l1 μ = some (v, μ2)) (h : mW m0 w0 μ w) (k : ∀ w2, mW m0 w0 μ2 w2 → Post none w2) : zOk S (q + 1) 97 20 [(0, .ref m0), (1, .int l1)] [] w Post := by
  unfold mF_close_20 at hk
  refine zi_l rfl rfl rfl ?_
  refine zi_a rfl rfl rfl ?_
  refine zm_g h rfl rfl rfl rfl ?_
  refine zi_a (st' := .int 1 :: _) rfl rfl rfl ?_
  refine zi_a rfl rfl rfl ?_
  refine zm_p h rfl rfl rfl rfl ⟨rfl, rfl, Or.inl rfl⟩ (fun w h => ?_)
  generalize mu1 μ 34 0 ((μ.1 34 0) + (1 : Int32)) = m1 at h hk
  rw [mPut_eq] at hk
  cases hk
  exact zi_ret rfl rfl rfl (k w h)
def mF_close (a1 : Int32) (μ : mS) : Option (Unit × mS) :=
  if (200 : Int32) ≤ (μ.1 34 0) then (mF_close_20  a1 μ) else (if zix (μ.1 34 0) 200 then mPut (mu1 μ 35 ((μ.1 34 0)).toNatClampNeg a1) fun m3 => mF_close_20  a1 m3 else none)
theorem mT_close {S : zS} {q : Nat} {w w0 : zW} {Post : Option Value → zW → Prop} {m0 : Nat} {μ μ2 : mS} {v : Unit} {a1 : Int32} (hq : 0 ≤ q) (hk : mF_close a1 μ = some (v, μ2)) (h : mW m0 w0 μ w) (k : ∀ w2, mW m0 w0 μ2 w2 → Post none w2) : zOk S (q + 1) 97 0 (lv_args 0 [.ref m0, .int a1]) [] w Post := by
  unfold mF_close at hk
  refine zi_l rfl rfl rfl ?_
  refine zm_g h rfl rfl rfl rfl ?_
  refine zi_a (st' := .int 200 :: _) rfl rfl rfl ?_
  refine zi_ifd rfl rfl rfl (tgt := 20) (by decide) (fun c1 => ?_) (fun c1 => ?_)
  · rw [if_pos c1] at hk
    exact mT_close_20 hq hk h k
  · rw [if_neg c1] at hk
    refine zi_l rfl rfl rfl ?_
    refine zm_ga (f := 35) h rfl rfl (by decide) ?_
    refine zi_l rfl rfl rfl ?_
    refine zm_g h rfl rfl rfl rfl ?_
    refine zi_l rfl rfl rfl ?_
    by_cases q2 : zix (μ.1 34 0) 200
    case neg => rw [if_neg q2] at hk; cases hk
    rw [if_pos q2] at hk
    refine zm_st (f := 35) h rfl (by decide) rfl q2 (fun w h => ?_)
    generalize mu1 μ 35 ((μ.1 34 0)).toNatClampNeg a1 = m3 at h hk
    rw [mPut_eq] at hk
    exact mT_close_20 hq hk h k
def mF_isOpen (μ : mS) : Option (Int32 × mS) :=
  if (μ.1 24 0) = 0 then (some ((0 : Int32), μ)) else (if (μ.1 25 0) = (1 : Int32) then (some ((0 : Int32), μ)) else (if (μ.1 25 0) = (3 : Int32) then (some ((0 : Int32), μ)) else (some ((1 : Int32), μ))))
theorem mT_isOpen {S : zS} {q : Nat} {w w0 : zW} {Post : Option Value → zW → Prop} {m0 : Nat} {μ μ2 : mS} {v : Int32} (hq : 0 ≤ q) (hk : mF_isOpen  μ = some (v, μ2)) (h : mW m0 w0 μ w) (k : ∀ w2, mW m0 w0 μ2 w2 → Post (some (.int v)) w2) : zOk S (q + 1) 100 0 (lv_args 0 [.ref m0]) [] w Post := by
  unfold mF_isOpen at hk
  refine zi_l rfl rfl rfl ?_
  refine zm_g h rfl rfl rfl rfl ?_
  refine zi_ifd rfl rfl rfl (tgt := 27) (by decide) (fun c1 => ?_) (fun c1 => ?_)
  · rw [if_pos c1] at hk
    refine zi_a (st' := .int 0 :: _) rfl rfl rfl ?_
    cases hk
    exact zi_rz rfl rfl (Or.inl rfl) (k w h)
  · rw [if_neg c1] at hk
    refine zi_l rfl rfl rfl ?_
    refine zm_g h rfl rfl rfl rfl ?_
    refine zi_a (st' := .int 1 :: _) rfl rfl rfl ?_
    refine zi_ifd rfl rfl rfl (tgt := 27) (by decide) (fun c2 => ?_) (fun c2 => ?_)
    · rw [if_pos c2] at hk
      refine zi_a (st' := .int 0 :: _) rfl rfl rfl ?_
      cases hk
      exact zi_rz rfl rfl (Or.inl rfl) (k w h)
    · rw [if_neg c2] at hk
      refine zi_l rfl rfl rfl ?_
      refine zm_g h rfl rfl rfl rfl ?_
      refine zi_a (st' := .int 3 :: _) rfl rfl rfl ?_
      refine zi_ifd rfl rfl rfl (tgt := 27) (by decide) (fun c3 => ?_) (fun c3 => ?_)
      · rw [if_pos c3] at hk
        refine zi_a (st' := .int 0 :: _) rfl rfl rfl ?_
        cases hk
        exact zi_rz rfl rfl (Or.inl rfl) (k w h)
      · rw [if_neg c3] at hk
        refine zi_a (st' := .int 1 :: _) rfl rfl rfl ?_
        refine zi_go rfl rfl rfl (tgt := 28) (by decide) ?_
        cases hk
        exact zi_rz rfl rfl (Or.inr rfl) (k w h)
def mF_alarm (a1 : Int32) (a2 : Int32) (μ : mS) : Option (Int32 × mS) :=
  if (μ.1 24 0) = 0 then (some ((-1 : Int32), μ)) else (if a1 < 0 then (some ((-1 : Int32), μ)) else (if a1 < (μ.1 30 0) then (if ¬ a2 = 0 then (if ¬ a2 = (1 : Int32) then (if ¬ a2 = (2 : Int32) then (some ((-1 : Int32), μ)) else (if zix a1 200 then some ((μ.1 33 (a1).toNatClampNeg), μ) else none)) else (if zix a1 200 then some ((μ.1 32 (a1).toNatClampNeg), μ) else none)) else (if zix a1 200 then some ((μ.1 31 (a1).toNatClampNeg), μ) else none)) else (some ((-1 : Int32), μ))))
theorem mT_alarm {S : zS} {q : Nat} {w w0 : zW} {Post : Option Value → zW → Prop} {m0 : Nat} {μ μ2 : mS} {v : Int32} {a1 : Int32} {a2 : Int32} (hq : 0 ≤ q) (hk : mF_alarm a1 a2 μ = some (v, μ2)) (h : mW m0 w0 μ w) (k : ∀ w2, mW m0 w0 μ2 w2 → Post (some (.int v)) w2) : zOk S (q + 1) 102 0 (lv_args 0 [.ref m0, .int a1, .int a2]) [] w Post := by
  unfold mF_alarm at hk
  refine zi_l rfl rfl rfl ?_
  refine zm_g h rfl rfl rfl rfl ?_
  refine zi_ifd rfl rfl rfl (tgt := 19) (by decide) (fun c1 => ?_) (fun c1 => ?_)
  · rw [if_pos c1] at hk
    refine zi_a (st' := .int (-1) :: _) rfl rfl rfl ?_
    cases hk
    exact zi_ri rfl rfl (k w h)
  · rw [if_neg c1] at hk
    refine zi_l rfl rfl rfl ?_
    refine zi_ifd rfl rfl rfl (tgt := 19) (by decide) (fun c2 => ?_) (fun c2 => ?_)
    · rw [if_pos c2] at hk
      refine zi_a (st' := .int (-1) :: _) rfl rfl rfl ?_
      cases hk
      exact zi_ri rfl rfl (k w h)
    · rw [if_neg c2] at hk
      refine zi_l rfl rfl rfl ?_
      refine zi_l rfl rfl rfl ?_
      refine zm_g h rfl rfl rfl rfl ?_
      refine zi_ifd rfl rfl rfl (tgt := 21) (by decide) (fun c3 => ?_) (fun c3 => ?_)
      · rw [if_pos c3] at hk
        refine zi_l rfl rfl rfl ?_
        refine zi_ifd rfl rfl rfl (tgt := 34) (by decide) (fun c4 => ?_) (fun c4 => ?_)
        · rw [if_pos c4] at hk
          refine zi_l rfl rfl rfl ?_
          refine zi_a (st' := .int 1 :: _) rfl rfl rfl ?_
          refine zi_ifd rfl rfl rfl (tgt := 48) (by decide) (fun c5 => ?_) (fun c5 => ?_)
          · rw [if_pos c5] at hk
            refine zi_l rfl rfl rfl ?_
            refine zi_a (st' := .int 2 :: _) rfl rfl rfl ?_
            refine zi_ifd rfl rfl rfl (tgt := 62) (by decide) (fun c6 => ?_) (fun c6 => ?_)
            · rw [if_pos c6] at hk
              refine zi_a (st' := .int (-1) :: _) rfl rfl rfl ?_
              cases hk
              exact zi_ri rfl rfl (k w h)
            · rw [if_neg c6] at hk
              refine zi_l rfl rfl rfl ?_
              refine zm_ga (f := 33) h rfl rfl (by decide) ?_
              refine zi_l rfl rfl rfl ?_
              by_cases q7 : zix a1 200
              case neg => rw [if_neg q7] at hk; cases hk
              rw [if_pos q7] at hk
              refine zm_ld (f := 33) h rfl (by decide) rfl q7 ?_
              refine zi_go rfl rfl rfl (tgt := 63) (by decide) ?_
              cases hk
              exact zi_ri rfl rfl (k w h)
          · rw [if_neg c5] at hk
            refine zi_l rfl rfl rfl ?_
            refine zm_ga (f := 32) h rfl rfl (by decide) ?_
            refine zi_l rfl rfl rfl ?_
            by_cases q8 : zix a1 200
            case neg => rw [if_neg q8] at hk; cases hk
            rw [if_pos q8] at hk
            refine zm_ld (f := 32) h rfl (by decide) rfl q8 ?_
            refine zi_go rfl rfl rfl (tgt := 63) (by decide) ?_
            cases hk
            exact zi_ri rfl rfl (k w h)
        · rw [if_neg c4] at hk
          refine zi_l rfl rfl rfl ?_
          refine zm_ga (f := 31) h rfl rfl (by decide) ?_
          refine zi_l rfl rfl rfl ?_
          by_cases q9 : zix a1 200
          case neg => rw [if_neg q9] at hk; cases hk
          rw [if_pos q9] at hk
          refine zm_ld (f := 31) h rfl (by decide) rfl q9 ?_
          refine zi_go rfl rfl rfl (tgt := 63) (by decide) ?_
          cases hk
          exact zi_ri rfl rfl (k w h)
      · rw [if_neg c3] at hk
        refine zi_a (st' := .int (-1) :: _) rfl rfl rfl ?_
        cases hk
        exact zi_ri rfl rfl (k w h)
def mF_hold_36 (l1 : Int32) (s1 : Int32) (μ : mS) : Option (Int32 × mS) :=
  mPut (mu1 μ 25 0 s1) fun m1 => some ((1 : Int32), m1)
theorem mT_hold_36 {S : zS} {q : Nat} {w w0 : zW} {Post : Option Value → zW → Prop} {m0 : Nat} {μ μ2 : mS} {v : Int32} {l1 : Int32} {s1 : Int32} (hq : 1 ≤ q) (hk : mF_hold_36 l1 s1 μ = some (v, μ2)) (h : mW m0 w0 μ w) (k : ∀ w2, mW m0 w0 μ2 w2 → Post (some (.int v)) w2) : zOk S (q + 1) 104 36 [(0, .ref m0), (1, .int l1)] [.int s1, .ref m0] w Post := by
  unfold mF_hold_36 at hk
  refine zm_p h rfl rfl rfl rfl ⟨rfl, rfl, Or.inl rfl⟩ (fun w h => ?_)
  generalize mu1 μ 25 0 s1 = m1 at h hk
  rw [mPut_eq] at hk
  refine zi_a (st' := .int 1 :: _) rfl rfl rfl ?_
  cases hk
  exact zi_rz rfl rfl (Or.inr rfl) (k w h)
def mF_hold_20 (l1 : Int32) (s0 : Int32) (μ : mS) : Option (Int32 × mS) :=
  if ¬ s0 = l1 then (if l1 = 0 then (mF_hold_36  l1 (0 : Int32) μ) else (mF_hold_36  l1 (2 : Int32) μ)) else (some ((0 : Int32), μ))
theorem mT_hold_20 {S : zS} {q : Nat} {w w0 : zW} {Post : Option Value → zW → Prop} {m0 : Nat} {μ μ2 : mS} {v : Int32} {l1 : Int32} {s0 : Int32} (hq : 1 ≤ q) (hk : mF_hold_20 l1 s0 μ = some (v, μ2)) (h : mW m0 w0 μ w) (k : ∀ w2, mW m0 w0 μ2 w2 → Post (some (.int v)) w2) : zOk S (q + 1) 104 20 [(0, .ref m0), (1, .int l1)] [.int s0] w Post := by
  unfold mF_hold_20 at hk
  refine zi_l rfl rfl rfl ?_
  refine zi_ifd rfl rfl rfl (tgt := 26) (by decide) (fun c1 => ?_) (fun c1 => ?_)
  · rw [if_pos c1] at hk
    refine zi_l rfl rfl rfl ?_
    refine zi_l rfl rfl rfl ?_
    refine zi_ifd rfl rfl rfl (tgt := 35) (by decide) (fun c2 => ?_) (fun c2 => ?_)
    · rw [if_pos c2] at hk
      refine zi_a (st' := .int 0 :: _) rfl rfl rfl ?_
      exact mT_hold_36 hq hk h k
    · rw [if_neg c2] at hk
      refine zi_a (st' := .int 2 :: _) rfl rfl rfl ?_
      refine zi_go rfl rfl rfl (tgt := 36) (by decide) ?_
      exact mT_hold_36 hq hk h k
  · rw [if_neg c1] at hk
    refine zi_a (st' := .int 0 :: _) rfl rfl rfl ?_
    cases hk
    exact zi_rz rfl rfl (Or.inl rfl) (k w h)
def mF_hold (a1 : Int32) (μ : mS) : Option (Int32 × mS) :=
  match mF_isOpen  μ with | none => none | some (v2, m3) => if v2 = 0 then (some ((0 : Int32), m3)) else (if ¬ (m3.1 25 0) = (2 : Int32) then (mF_hold_20  a1 (0 : Int32) m3) else (mF_hold_20  a1 (1 : Int32) m3))
theorem mT_hold {S : zS} {q : Nat} {w w0 : zW} {Post : Option Value → zW → Prop} {m0 : Nat} {μ μ2 : mS} {v : Int32} {a1 : Int32} (hq : 1 ≤ q) (hk : mF_hold a1 μ = some (v, μ2)) (h : mW m0 w0 μ w) (k : ∀ w2, mW m0 w0 μ2 w2 → Post (some (.int v)) w2) : zOk S (q + 1) 104 0 (lv_args 0 [.ref m0, .int a1]) [] w Post := by
  unfold mF_hold at hk
  refine zi_l rfl rfl rfl ?_
  cases c1 : mF_isOpen  μ with
  | none => rw [c1] at hk; cases hk
  | some q1 =>
    obtain ⟨v2, m3⟩ := q1
    rw [c1] at hk
    dsimp only at hk
    refine zm_c h rfl rfl rfl rfl rfl rfl ((mT_isOpen (q := 0) (Nat.le_refl _) c1 h (fun w h => ?_)).deep (by omega))
    refine zi_ifd rfl rfl rfl (tgt := 24) (by decide) (fun c4 => ?_) (fun c4 => ?_)
    · rw [if_pos c4] at hk
      refine zi_a (st' := .int 0 :: _) rfl rfl rfl ?_
      cases hk
      exact zi_rz rfl rfl (Or.inl rfl) (k w h)
    · rw [if_neg c4] at hk
      refine zi_l rfl rfl rfl ?_
      refine zm_g h rfl rfl rfl rfl ?_
      refine zi_a (st' := .int 2 :: _) rfl rfl rfl ?_
      refine zi_ifd rfl rfl rfl (tgt := 19) (by decide) (fun c5 => ?_) (fun c5 => ?_)
      · rw [if_pos c5] at hk
        refine zi_a (st' := .int 0 :: _) rfl rfl rfl ?_
        exact mT_hold_20 hq hk h k
      · rw [if_neg c5] at hk
        refine zi_a (st' := .int 1 :: _) rfl rfl rfl ?_
        refine zi_go rfl rfl rfl (tgt := 20) (by decide) ?_
        exact mT_hold_20 hq hk h k
def mF_closed (a1 : Int32) (μ : mS) : Option (Int32 × mS) :=
  if (μ.1 24 0) = 0 then (some ((-1 : Int32), μ)) else (if a1 < 0 then (some ((-1 : Int32), μ)) else (if (μ.1 34 0) ≤ a1 then (some ((-1 : Int32), μ)) else (if (200 : Int32) ≤ a1 then (some ((-1 : Int32), μ)) else (if zix a1 200 then some ((μ.1 35 (a1).toNatClampNeg), μ) else none))))
theorem mT_closed {S : zS} {q : Nat} {w w0 : zW} {Post : Option Value → zW → Prop} {m0 : Nat} {μ μ2 : mS} {v : Int32} {a1 : Int32} (hq : 0 ≤ q) (hk : mF_closed a1 μ = some (v, μ2)) (h : mW m0 w0 μ w) (k : ∀ w2, mW m0 w0 μ2 w2 → Post (some (.int v)) w2) : zOk S (q + 1) 106 0 (lv_args 0 [.ref m0, .int a1]) [] w Post := by
  unfold mF_closed at hk
  refine zi_l rfl rfl rfl ?_
  refine zm_g h rfl rfl rfl rfl ?_
  refine zi_ifd rfl rfl rfl (tgt := 35) (by decide) (fun c1 => ?_) (fun c1 => ?_)
  · rw [if_pos c1] at hk
    refine zi_a (st' := .int (-1) :: _) rfl rfl rfl ?_
    cases hk
    exact zi_ri rfl rfl (k w h)
  · rw [if_neg c1] at hk
    refine zi_l rfl rfl rfl ?_
    refine zi_ifd rfl rfl rfl (tgt := 35) (by decide) (fun c2 => ?_) (fun c2 => ?_)
    · rw [if_pos c2] at hk
      refine zi_a (st' := .int (-1) :: _) rfl rfl rfl ?_
      cases hk
      exact zi_ri rfl rfl (k w h)
    · rw [if_neg c2] at hk
      refine zi_l rfl rfl rfl ?_
      refine zi_l rfl rfl rfl ?_
      refine zm_g h rfl rfl rfl rfl ?_
      refine zi_ifd rfl rfl rfl (tgt := 35) (by decide) (fun c3 => ?_) (fun c3 => ?_)
      · rw [if_pos c3] at hk
        refine zi_a (st' := .int (-1) :: _) rfl rfl rfl ?_
        cases hk
        exact zi_ri rfl rfl (k w h)
      · rw [if_neg c3] at hk
        refine zi_l rfl rfl rfl ?_
        refine zi_a (st' := .int 200 :: _) rfl rfl rfl ?_
        refine zi_ifd rfl rfl rfl (tgt := 35) (by decide) (fun c4 => ?_) (fun c4 => ?_)
        · rw [if_pos c4] at hk
          refine zi_a (st' := .int (-1) :: _) rfl rfl rfl ?_
          cases hk
          exact zi_ri rfl rfl (k w h)
        · rw [if_neg c4] at hk
          refine zi_l rfl rfl rfl ?_
          refine zm_ga (f := 35) h rfl rfl (by decide) ?_
          refine zi_l rfl rfl rfl ?_
          by_cases q5 : zix a1 200
          case neg => rw [if_neg q5] at hk; cases hk
          rw [if_pos q5] at hk
          refine zm_ld (f := 35) h rfl (by decide) rfl q5 ?_
          refine zi_go rfl rfl rfl (tgt := 36) (by decide) ?_
          cases hk
          exact zi_ri rfl rfl (k w h)
def mF_put_146 (l1 : Int32) (l2 : Int32) (l3 : Int32) (l4 : Int32) (l5 : Int64) (l7 : Int32) (l8 : Int32) (s0 : Int32) (μ : mS) : Option (Int32 × mS) :=
  if zix (μ.1 0 0) 200 then if s0 = 0 ∨ s0 = 1 then mPut (mu1 μ 8 ((μ.1 0 0)).toNatClampNeg s0) fun m3 => mPut (mu1 m3 0 0 ((m3.1 0 0) + (1 : Int32))) fun m4 => some (((m4.1 0 0) - (1 : Int32)), m4) else none else none
theorem mT_put_146 {S : zS} {q : Nat} {w w0 : zW} {Post : Option Value → zW → Prop} {m0 : Nat} {μ μ2 : mS} {v : Int32} {l1 : Int32} {l2 : Int32} {l3 : Int32} {l4 : Int32} {l5 : Int64} {l7 : Int32} {l8 : Int32} {s0 : Int32} (hq : 0 ≤ q) (hk : mF_put_146 l1 l2 l3 l4 l5 l7 l8 s0 μ = some (v, μ2)) (h : mW m0 w0 μ w) (k : ∀ w2, mW m0 w0 μ2 w2 → Post (some (.int v)) w2) : zOk S (q + 1) 71 146 [(0, .ref m0), (1, .int l1), (2, .int l2), (3, .int l3), (4, .int l4), (5, .long l5), (7, .int l7), (8, .int l8)] [.int s0] w Post := by
  unfold mF_put_146 at hk
  refine zi_l rfl rfl rfl ?_
  refine zi_l rfl rfl rfl ?_
  refine zm_ga (f := 8) h rfl rfl (by decide) ?_
  refine zi_l rfl rfl rfl ?_
  refine zm_g h rfl rfl rfl rfl ?_
  refine zi_l rfl rfl rfl ?_
  by_cases q1 : zix (μ.1 0 0) 200
  case neg => rw [if_neg q1] at hk; cases hk
  rw [if_pos q1] at hk
  by_cases q2 : s0 = 0 ∨ s0 = 1
  case neg => rw [if_neg q2] at hk; cases hk
  rw [if_pos q2] at hk
  refine zm_sz (f := 8) h rfl (by decide) rfl (z_nb q2) q1 (fun w h => ?_)
  generalize mu1 μ 8 ((μ.1 0 0)).toNatClampNeg s0 = m3 at h hk
  rw [mPut_eq] at hk
  refine zi_l rfl rfl rfl ?_
  refine zi_a rfl rfl rfl ?_
  refine zm_g h rfl rfl rfl rfl ?_
  refine zi_a (st' := .int 1 :: _) rfl rfl rfl ?_
  refine zi_a rfl rfl rfl ?_
  refine zm_p h rfl rfl rfl rfl ⟨rfl, rfl, Or.inl rfl⟩ (fun w h => ?_)
  generalize mu1 m3 0 0 ((m3.1 0 0) + (1 : Int32)) = m4 at h hk
  rw [mPut_eq] at hk
  refine zi_l rfl rfl rfl ?_
  refine zm_g h rfl rfl rfl rfl ?_
  refine zi_a (st' := .int 1 :: _) rfl rfl rfl ?_
  refine zi_a rfl rfl rfl ?_
  cases hk
  exact zi_ri rfl rfl (k w h)
def mF_put_145 (l1 : Int32) (l2 : Int32) (l3 : Int32) (l4 : Int32) (l5 : Int64) (l7 : Int32) (l8 : Int32) (μ : mS) : Option (Int32 × mS) :=
  mF_put_146  l1 l2 l3 l4 l5 l7 l8 (0 : Int32) μ
theorem mT_put_145 {S : zS} {q : Nat} {w w0 : zW} {Post : Option Value → zW → Prop} {m0 : Nat} {μ μ2 : mS} {v : Int32} {l1 : Int32} {l2 : Int32} {l3 : Int32} {l4 : Int32} {l5 : Int64} {l7 : Int32} {l8 : Int32} (hq : 0 ≤ q) (hk : mF_put_145 l1 l2 l3 l4 l5 l7 l8 μ = some (v, μ2)) (h : mW m0 w0 μ w) (k : ∀ w2, mW m0 w0 μ2 w2 → Post (some (.int v)) w2) : zOk S (q + 1) 71 145 [(0, .ref m0), (1, .int l1), (2, .int l2), (3, .int l3), (4, .int l4), (5, .long l5), (7, .int l7), (8, .int l8)] [] w Post := by
  unfold mF_put_145 at hk
  refine zi_a (st' := .int 0 :: _) rfl rfl rfl ?_
  exact mT_put_146 hq hk h k
def mF_put_141 (l1 : Int32) (l2 : Int32) (l3 : Int32) (l4 : Int32) (l5 : Int64) (l7 : Int32) (l8 : Int32) (μ : mS) : Option (Int32 × mS) :=
  mF_put_146  l1 l2 l3 l4 l5 l7 l8 (1 : Int32) μ
theorem mT_put_141 {S : zS} {q : Nat} {w w0 : zW} {Post : Option Value → zW → Prop} {m0 : Nat} {μ μ2 : mS} {v : Int32} {l1 : Int32} {l2 : Int32} {l3 : Int32} {l4 : Int32} {l5 : Int64} {l7 : Int32} {l8 : Int32} (hq : 0 ≤ q) (hk : mF_put_141 l1 l2 l3 l4 l5 l7 l8 μ = some (v, μ2)) (h : mW m0 w0 μ w) (k : ∀ w2, mW m0 w0 μ2 w2 → Post (some (.int v)) w2) : zOk S (q + 1) 71 141 [(0, .ref m0), (1, .int l1), (2, .int l2), (3, .int l3), (4, .int l4), (5, .long l5), (7, .int l7), (8, .int l8)] [] w Post := by
  unfold mF_put_141 at hk
  refine zi_a (st' := .int 1 :: _) rfl rfl rfl ?_
  refine zi_go rfl rfl rfl (tgt := 146) (by decide) ?_
  exact mT_put_146 hq hk h k
def mF_put_110 (l1 : Int32) (l2 : Int32) (l3 : Int32) (l4 : Int32) (l5 : Int64) (l7 : Int32) (l8 : Int32) (μ : mS) : Option (Int32 × mS) :=
  if ¬ l1 = (16 : Int32) then (mF_put_145  l1 l2 l3 l4 l5 l7 l8 μ) else (if zix l3 200 then if (μ.1 8 (l3).toNatClampNeg) = 0 then (mF_put_145  l1 l2 l3 l4 l5 l7 l8 μ) else (if l4 = (-1 : Int32) then (mF_put_141  l1 l2 l3 l4 l5 l7 l8 μ) else (if zix l4 200 then if (μ.1 8 (l4).toNatClampNeg) = 0 then (mF_put_145  l1 l2 l3 l4 l5 l7 l8 μ) else (mF_put_141  l1 l2 l3 l4 l5 l7 l8 μ) else none)) else none)
theorem mT_put_110 {S : zS} {q : Nat} {w w0 : zW} {Post : Option Value → zW → Prop} {m0 : Nat} {μ μ2 : mS} {v : Int32} {l1 : Int32} {l2 : Int32} {l3 : Int32} {l4 : Int32} {l5 : Int64} {l7 : Int32} {l8 : Int32} (hq : 0 ≤ q) (hk : mF_put_110 l1 l2 l3 l4 l5 l7 l8 μ = some (v, μ2)) (h : mW m0 w0 μ w) (k : ∀ w2, mW m0 w0 μ2 w2 → Post (some (.int v)) w2) : zOk S (q + 1) 71 110 [(0, .ref m0), (1, .int l1), (2, .int l2), (3, .int l3), (4, .int l4), (5, .long l5), (7, .int l7), (8, .int l8)] [] w Post := by
  unfold mF_put_110 at hk
  refine zi_l rfl rfl rfl ?_
  refine zi_a (st' := .int 16 :: _) rfl rfl rfl ?_
  refine zi_ifd rfl rfl rfl (tgt := 145) (by decide) (fun c1 => ?_) (fun c1 => ?_)
  · rw [if_pos c1] at hk
    exact mT_put_145 hq hk h k
  · rw [if_neg c1] at hk
    refine zi_l rfl rfl rfl ?_
    refine zm_ga (f := 8) h rfl rfl (by decide) ?_
    refine zi_l rfl rfl rfl ?_
    by_cases q2 : zix l3 200
    case neg => rw [if_neg q2] at hk; cases hk
    rw [if_pos q2] at hk
    refine zm_lz (f := 8) h rfl (by decide) rfl q2 ?_
    refine zi_ifd rfl rfl rfl (tgt := 145) (by decide) (fun c3 => ?_) (fun c3 => ?_)
    · rw [if_pos c3] at hk
      exact mT_put_145 hq hk h k
    · rw [if_neg c3] at hk
      refine zi_l rfl rfl rfl ?_
      refine zi_a (st' := .int (-1) :: _) rfl rfl rfl ?_
      refine zi_ifd rfl rfl rfl (tgt := 141) (by decide) (fun c4 => ?_) (fun c4 => ?_)
      · rw [if_pos c4] at hk
        exact mT_put_141 hq hk h k
      · rw [if_neg c4] at hk
        refine zi_l rfl rfl rfl ?_
        refine zm_ga (f := 8) h rfl rfl (by decide) ?_
        refine zi_l rfl rfl rfl ?_
        by_cases q5 : zix l4 200
        case neg => rw [if_neg q5] at hk; cases hk
        rw [if_pos q5] at hk
        refine zm_lz (f := 8) h rfl (by decide) rfl q5 ?_
        refine zi_ifd rfl rfl rfl (tgt := 145) (by decide) (fun c6 => ?_) (fun c6 => ?_)
        · rw [if_pos c6] at hk
          exact mT_put_145 hq hk h k
        · rw [if_neg c6] at hk
          exact mT_put_141 hq hk h k
def mF_put (a1 : Int32) (a2 : Int32) (a3 : Int32) (a4 : Int32) (a5 : Int64) (a6 : Int32) (a7 : Int32) (μ : mS) : Option (Int32 × mS) :=
  if zix (μ.1 0 0) 200 then mPut (mu1 μ 1 ((μ.1 0 0)).toNatClampNeg a1) fun m2 => if zix (m2.1 0 0) 200 then mPut (mu1 m2 2 ((m2.1 0 0)).toNatClampNeg a2) fun m4 => if zix (m4.1 0 0) 200 then mPut (mu1 m4 3 ((m4.1 0 0)).toNatClampNeg a3) fun m6 => if zix (m6.1 0 0) 200 then mPut (mu1 m6 4 ((m6.1 0 0)).toNatClampNeg a4) fun m8 => if zix (m8.1 0 0) 200 then mPut (mu2 m8 5 ((m8.1 0 0)).toNatClampNeg a5) fun m10 => if zix (m10.1 0 0) 200 then mPut (mu1 m10 6 ((m10.1 0 0)).toNatClampNeg a6) fun m12 => if zix (m12.1 0 0) 200 then mPut (mu1 m12 7 ((m12.1 0 0)).toNatClampNeg a7) fun m14 => if a1 = (11 : Int32) then (mF_put_141  a1 a2 a3 a4 a5 a6 a7 m14) else (if a1 = (12 : Int32) then (mF_put_141  a1 a2 a3 a4 a5 a6 a7 m14) else (if ¬ a1 = (10 : Int32) then (mF_put_110  a1 a2 a3 a4 a5 a6 a7 m14) else (if zix a2 200 then if (m14.1 8 (a2).toNatClampNeg) = 0 then (mF_put_110  a1 a2 a3 a4 a5 a6 a7 m14) else (if zix a3 200 then if ¬ (m14.1 8 (a3).toNatClampNeg) = 0 then (mF_put_141  a1 a2 a3 a4 a5 a6 a7 m14) else (mF_put_110  a1 a2 a3 a4 a5 a6 a7 m14) else none) else none))) else none else none else none else none else none else none else none
theorem mT_put {S : zS} {q : Nat} {w w0 : zW} {Post : Option Value → zW → Prop} {m0 : Nat} {μ μ2 : mS} {v : Int32} {a1 : Int32} {a2 : Int32} {a3 : Int32} {a4 : Int32} {a5 : Int64} {a6 : Int32} {a7 : Int32} (hq : 0 ≤ q) (hk : mF_put a1 a2 a3 a4 a5 a6 a7 μ = some (v, μ2)) (h : mW m0 w0 μ w) (k : ∀ w2, mW m0 w0 μ2 w2 → Post (some (.int v)) w2) : zOk S (q + 1) 71 0 (lv_args 0 [.ref m0, .int a1, .int a2, .int a3, .int a4, .long a5, .int a6, .int a7]) [] w Post := by
  unfold mF_put at hk
  refine zi_l rfl rfl rfl ?_
  refine zm_ga (f := 1) h rfl rfl (by decide) ?_
  refine zi_l rfl rfl rfl ?_
  refine zm_g h rfl rfl rfl rfl ?_
  refine zi_l rfl rfl rfl ?_
  by_cases q1 : zix (μ.1 0 0) 200
  case neg => rw [if_neg q1] at hk; cases hk
  rw [if_pos q1] at hk
  refine zm_st (f := 1) h rfl (by decide) rfl q1 (fun w h => ?_)
  generalize mu1 μ 1 ((μ.1 0 0)).toNatClampNeg a1 = m2 at h hk
  rw [mPut_eq] at hk
  refine zi_l rfl rfl rfl ?_
  refine zm_ga (f := 2) h rfl rfl (by decide) ?_
  refine zi_l rfl rfl rfl ?_
  refine zm_g h rfl rfl rfl rfl ?_
  refine zi_l rfl rfl rfl ?_
  by_cases q3 : zix (m2.1 0 0) 200
  case neg => rw [if_neg q3] at hk; cases hk
  rw [if_pos q3] at hk
  refine zm_st (f := 2) h rfl (by decide) rfl q3 (fun w h => ?_)
  generalize mu1 m2 2 ((m2.1 0 0)).toNatClampNeg a2 = m4 at h hk
  rw [mPut_eq] at hk
  refine zi_l rfl rfl rfl ?_
  refine zm_ga (f := 3) h rfl rfl (by decide) ?_
  refine zi_l rfl rfl rfl ?_
  refine zm_g h rfl rfl rfl rfl ?_
  refine zi_l rfl rfl rfl ?_
  by_cases q5 : zix (m4.1 0 0) 200
  case neg => rw [if_neg q5] at hk; cases hk
  rw [if_pos q5] at hk
  refine zm_st (f := 3) h rfl (by decide) rfl q5 (fun w h => ?_)
  generalize mu1 m4 3 ((m4.1 0 0)).toNatClampNeg a3 = m6 at h hk
  rw [mPut_eq] at hk
  refine zi_l rfl rfl rfl ?_
  refine zm_ga (f := 4) h rfl rfl (by decide) ?_
  refine zi_l rfl rfl rfl ?_
  refine zm_g h rfl rfl rfl rfl ?_
  refine zi_l rfl rfl rfl ?_
  by_cases q7 : zix (m6.1 0 0) 200
  case neg => rw [if_neg q7] at hk; cases hk
  rw [if_pos q7] at hk
  refine zm_st (f := 4) h rfl (by decide) rfl q7 (fun w h => ?_)
  generalize mu1 m6 4 ((m6.1 0 0)).toNatClampNeg a4 = m8 at h hk
  rw [mPut_eq] at hk
  refine zi_l rfl rfl rfl ?_
  refine zm_ga (f := 5) h rfl rfl (by decide) ?_
  refine zi_l rfl rfl rfl ?_
  refine zm_g h rfl rfl rfl rfl ?_
  refine zi_l rfl rfl rfl ?_
  by_cases q9 : zix (m8.1 0 0) 200
  case neg => rw [if_neg q9] at hk; cases hk
  rw [if_pos q9] at hk
  refine zm_sl (f := 5) h rfl (by decide) rfl q9 (fun w h => ?_)
  generalize mu2 m8 5 ((m8.1 0 0)).toNatClampNeg a5 = m10 at h hk
  rw [mPut_eq] at hk
  refine zi_l rfl rfl rfl ?_
  refine zm_ga (f := 6) h rfl rfl (by decide) ?_
  refine zi_l rfl rfl rfl ?_
  refine zm_g h rfl rfl rfl rfl ?_
  refine zi_l rfl rfl rfl ?_
  by_cases q11 : zix (m10.1 0 0) 200
  case neg => rw [if_neg q11] at hk; cases hk
  rw [if_pos q11] at hk
  refine zm_st (f := 6) h rfl (by decide) rfl q11 (fun w h => ?_)
  generalize mu1 m10 6 ((m10.1 0 0)).toNatClampNeg a6 = m12 at h hk
  rw [mPut_eq] at hk
  refine zi_l rfl rfl rfl ?_
  refine zm_ga (f := 7) h rfl rfl (by decide) ?_
  refine zi_l rfl rfl rfl ?_
  refine zm_g h rfl rfl rfl rfl ?_
  refine zi_l rfl rfl rfl ?_
  by_cases q13 : zix (m12.1 0 0) 200
  case neg => rw [if_neg q13] at hk; cases hk
  rw [if_pos q13] at hk
  refine zm_st (f := 7) h rfl (by decide) rfl q13 (fun w h => ?_)
  generalize mu1 m12 7 ((m12.1 0 0)).toNatClampNeg a7 = m14 at h hk
  rw [mPut_eq] at hk
  refine zi_l rfl rfl rfl ?_
  refine zi_a (st' := .int 11 :: _) rfl rfl rfl ?_
  refine zi_ifd rfl rfl rfl (tgt := 141) (by decide) (fun c15 => ?_) (fun c15 => ?_)
  · rw [if_pos c15] at hk
    exact mT_put_141 hq hk h k
  · rw [if_neg c15] at hk
    refine zi_l rfl rfl rfl ?_
    refine zi_a (st' := .int 12 :: _) rfl rfl rfl ?_
    refine zi_ifd rfl rfl rfl (tgt := 141) (by decide) (fun c16 => ?_) (fun c16 => ?_)
    · rw [if_pos c16] at hk
      exact mT_put_141 hq hk h k
    · rw [if_neg c16] at hk
      refine zi_l rfl rfl rfl ?_
      refine zi_a (st' := .int 10 :: _) rfl rfl rfl ?_
      refine zi_ifd rfl rfl rfl (tgt := 110) (by decide) (fun c17 => ?_) (fun c17 => ?_)
      · rw [if_pos c17] at hk
        exact mT_put_110 hq hk h k
      · rw [if_neg c17] at hk
        refine zi_l rfl rfl rfl ?_
        refine zm_ga (f := 8) h rfl rfl (by decide) ?_
        refine zi_l rfl rfl rfl ?_
        by_cases q18 : zix a2 200
        case neg => rw [if_neg q18] at hk; cases hk
        rw [if_pos q18] at hk
        refine zm_lz (f := 8) h rfl (by decide) rfl q18 ?_
        refine zi_ifd rfl rfl rfl (tgt := 110) (by decide) (fun c19 => ?_) (fun c19 => ?_)
        · rw [if_pos c19] at hk
          exact mT_put_110 hq hk h k
        · rw [if_neg c19] at hk
          refine zi_l rfl rfl rfl ?_
          refine zm_ga (f := 8) h rfl rfl (by decide) ?_
          refine zi_l rfl rfl rfl ?_
          by_cases q20 : zix a3 200
          case neg => rw [if_neg q20] at hk; cases hk
          rw [if_pos q20] at hk
          refine zm_lz (f := 8) h rfl (by decide) rfl q20 ?_
          refine zi_ifd rfl rfl rfl (tgt := 141) (by decide) (fun c21 => ?_) (fun c21 => ?_)
          · rw [if_pos c21] at hk
            exact mT_put_141 hq hk h k
          · rw [if_neg c21] at hk
            exact mT_put_110 hq hk h k
def mF_leaf_35 (l1 : Int32) (l2 : Int64) (μ : mS) : Option (Int32 × mS) :=
  if ¬ (μ.1 0 0) = (200 : Int32) then (match mF_put ((100 : Int32) + l1) (-1 : Int32) (-1 : Int32) (-1 : Int32) l2 (1 : Int32) (1 : Int32) μ with | none => none | some (v3, m4) => some (v3, m4)) else (some ((-2 : Int32), μ))
theorem mT_leaf_35 {S : zS} {q : Nat} {w w0 : zW} {Post : Option Value → zW → Prop} {m0 : Nat} {μ μ2 : mS} {v : Int32} {l1 : Int32} {l2 : Int64} (hq : 1 ≤ q) (hk : mF_leaf_35 l1 l2 μ = some (v, μ2)) (h : mW m0 w0 μ w) (k : ∀ w2, mW m0 w0 μ2 w2 → Post (some (.int v)) w2) : zOk S (q + 1) 70 35 [(0, .ref m0), (1, .int l1), (2, .long l2)] [] w Post := by
  unfold mF_leaf_35 at hk
  refine zi_l rfl rfl rfl ?_
  refine zm_g h rfl rfl rfl rfl ?_
  refine zi_a (st' := .int 200 :: _) rfl rfl rfl ?_
  refine zi_ifd rfl rfl rfl (tgt := 48) (by decide) (fun c1 => ?_) (fun c1 => ?_)
  · rw [if_pos c1] at hk
    refine zi_l rfl rfl rfl ?_
    refine zi_a (st' := .int 100 :: _) rfl rfl rfl ?_
    refine zi_l rfl rfl rfl ?_
    refine zi_a rfl rfl rfl ?_
    refine zi_a (st' := .int (-1) :: _) rfl rfl rfl ?_
    refine zi_a (st' := .int (-1) :: _) rfl rfl rfl ?_
    refine zi_a (st' := .int (-1) :: _) rfl rfl rfl ?_
    refine zi_l rfl rfl rfl ?_
    refine zi_a (st' := .int 1 :: _) rfl rfl rfl ?_
    refine zi_a (st' := .int 1 :: _) rfl rfl rfl ?_
    cases c2 : mF_put ((100 : Int32) + l1) (-1 : Int32) (-1 : Int32) (-1 : Int32) l2 (1 : Int32) (1 : Int32) μ with
    | none => rw [c2] at hk; cases hk
    | some q1 =>
      obtain ⟨v3, m4⟩ := q1
      rw [c2] at hk
      dsimp only at hk
      refine zm_c h rfl rfl rfl rfl rfl rfl ((mT_put (q := 0) (Nat.le_refl _) c2 h (fun w h => ?_)).deep (by omega))
      cases hk
      exact zi_ri rfl rfl (k w h)
  · rw [if_neg c1] at hk
    refine zi_a (st' := .int (-2) :: _) rfl rfl rfl ?_
    cases hk
    exact zi_ri rfl rfl (k w h)
def mF_leaf_19 (l1 : Int32) (l2 : Int64) (μ : mS) : Option (Int32 × mS) :=
  if (lg_cmp l2 (0 : Int64)) < 0 then (some ((-1 : Int32), μ)) else (if (lg_cmp l2 (15 : Int64)) ≤ 0 then (mF_leaf_35  l1 l2 μ) else (some ((-1 : Int32), μ)))
theorem mT_leaf_19 {S : zS} {q : Nat} {w w0 : zW} {Post : Option Value → zW → Prop} {m0 : Nat} {μ μ2 : mS} {v : Int32} {l1 : Int32} {l2 : Int64} (hq : 1 ≤ q) (hk : mF_leaf_19 l1 l2 μ = some (v, μ2)) (h : mW m0 w0 μ w) (k : ∀ w2, mW m0 w0 μ2 w2 → Post (some (.int v)) w2) : zOk S (q + 1) 70 19 [(0, .ref m0), (1, .int l1), (2, .long l2)] [] w Post := by
  unfold mF_leaf_19 at hk
  refine zi_l rfl rfl rfl ?_
  refine zi_a (st' := .long 0 :: _) rfl rfl rfl ?_
  refine zi_a rfl rfl rfl ?_
  refine zi_ifd rfl rfl rfl (tgt := 33) (by decide) (fun c1 => ?_) (fun c1 => ?_)
  · rw [if_pos c1] at hk
    refine zi_a (st' := .int (-1) :: _) rfl rfl rfl ?_
    cases hk
    exact zi_ri rfl rfl (k w h)
  · rw [if_neg c1] at hk
    refine zi_l rfl rfl rfl ?_
    refine zi_c2 rfl rfl ?_
    refine zi_a rfl rfl rfl ?_
    refine zi_ifd rfl rfl rfl (tgt := 35) (by decide) (fun c2 => ?_) (fun c2 => ?_)
    · rw [if_pos c2] at hk
      exact mT_leaf_35 hq hk h k
    · rw [if_neg c2] at hk
      refine zi_a (st' := .int (-1) :: _) rfl rfl rfl ?_
      cases hk
      exact zi_ri rfl rfl (k w h)
def mF_leaf (a1 : Int32) (a2 : Int64) (μ : mS) : Option (Int32 × mS) :=
  if a1 < 0 then (some ((-1 : Int32), μ)) else (if (3 : Int32) < a1 then (some ((-1 : Int32), μ)) else (if a1 = (1 : Int32) then (mF_leaf_19  a1 a2 μ) else (if ¬ a1 = (2 : Int32) then (mF_leaf_35  a1 a2 μ) else (mF_leaf_19  a1 a2 μ))))
theorem mT_leaf {S : zS} {q : Nat} {w w0 : zW} {Post : Option Value → zW → Prop} {m0 : Nat} {μ μ2 : mS} {v : Int32} {a1 : Int32} {a2 : Int64} (hq : 1 ≤ q) (hk : mF_leaf a1 a2 μ = some (v, μ2)) (h : mW m0 w0 μ w) (k : ∀ w2, mW m0 w0 μ2 w2 → Post (some (.int v)) w2) : zOk S (q + 1) 70 0 (lv_args 0 [.ref m0, .int a1, .long a2]) [] w Post := by
  unfold mF_leaf at hk
  refine zi_l rfl rfl rfl ?_
  refine zi_ifd rfl rfl rfl (tgt := 33) (by decide) (fun c1 => ?_) (fun c1 => ?_)
  · rw [if_pos c1] at hk
    refine zi_a (st' := .int (-1) :: _) rfl rfl rfl ?_
    cases hk
    exact zi_ri rfl rfl (k w h)
  · rw [if_neg c1] at hk
    refine zi_l rfl rfl rfl ?_
    refine zi_a (st' := .int 3 :: _) rfl rfl rfl ?_
    refine zi_ifd rfl rfl rfl (tgt := 33) (by decide) (fun c2 => ?_) (fun c2 => ?_)
    · rw [if_pos c2] at hk
      refine zi_a (st' := .int (-1) :: _) rfl rfl rfl ?_
      cases hk
      exact zi_ri rfl rfl (k w h)
    · rw [if_neg c2] at hk
      refine zi_l rfl rfl rfl ?_
      refine zi_a (st' := .int 1 :: _) rfl rfl rfl ?_
      refine zi_ifd rfl rfl rfl (tgt := 19) (by decide) (fun c3 => ?_) (fun c3 => ?_)
      · rw [if_pos c3] at hk
        exact mT_leaf_19 hq hk h k
      · rw [if_neg c3] at hk
        refine zi_l rfl rfl rfl ?_
        refine zi_a (st' := .int 2 :: _) rfl rfl rfl ?_
        refine zi_ifd rfl rfl rfl (tgt := 35) (by decide) (fun c4 => ?_) (fun c4 => ?_)
        · rw [if_pos c4] at hk
          exact mT_leaf_35 hq hk h k
        · rw [if_neg c4] at hk
          exact mT_leaf_19 hq hk h k
def mF_areParts_64 (l1 : Int32) (l2 : Int32) (l3 : Int32) (l4 : Int32) (μ : mS) : Option (Int32 × mS) :=
  match mF_isStatement l2 μ with | none => none | some (v2, m3) => if v2 = 0 then (some ((0 : Int32), m3)) else (match mF_isStatement l3 m3 with | none => none | some (v6, m7) => if v6 = 0 then (some ((0 : Int32), m7)) else (some ((1 : Int32), m7)))
theorem mT_areParts_64 {S : zS} {q : Nat} {w w0 : zW} {Post : Option Value → zW → Prop} {m0 : Nat} {μ μ2 : mS} {v : Int32} {l1 : Int32} {l2 : Int32} {l3 : Int32} {l4 : Int32} (hq : 2 ≤ q) (hk : mF_areParts_64 l1 l2 l3 l4 μ = some (v, μ2)) (h : mW m0 w0 μ w) (k : ∀ w2, mW m0 w0 μ2 w2 → Post (some (.int v)) w2) : zOk S (q + 1) 73 64 [(0, .ref m0), (1, .int l1), (2, .int l2), (3, .int l3), (4, .int l4)] [] w Post := by
  unfold mF_areParts_64 at hk
  refine zi_l rfl rfl rfl ?_
  refine zi_l rfl rfl rfl ?_
  cases c1 : mF_isStatement l2 μ with
  | none => rw [c1] at hk; cases hk
  | some q1 =>
    obtain ⟨v2, m3⟩ := q1
    rw [c1] at hk
    dsimp only at hk
    refine zm_c h rfl rfl rfl rfl rfl rfl ((mT_isStatement (q := 1) (Nat.le_refl _) c1 h (fun w h => ?_)).deep (by omega))
    refine zi_ifd rfl rfl rfl (tgt := 84) (by decide) (fun c4 => ?_) (fun c4 => ?_)
    · rw [if_pos c4] at hk
      refine zi_a (st' := .int 0 :: _) rfl rfl rfl ?_
      cases hk
      exact zi_rz rfl rfl (Or.inl rfl) (k w h)
    · rw [if_neg c4] at hk
      refine zi_l rfl rfl rfl ?_
      refine zi_l rfl rfl rfl ?_
      cases c5 : mF_isStatement l3 m3 with
      | none => rw [c5] at hk; cases hk
      | some q1 =>
        obtain ⟨v6, m7⟩ := q1
        rw [c5] at hk
        dsimp only at hk
        refine zm_c h rfl rfl rfl rfl rfl rfl ((mT_isStatement (q := 1) (Nat.le_refl _) c5 h (fun w h => ?_)).deep (by omega))
        refine zi_ifd rfl rfl rfl (tgt := 84) (by decide) (fun c8 => ?_) (fun c8 => ?_)
        · rw [if_pos c8] at hk
          refine zi_a (st' := .int 0 :: _) rfl rfl rfl ?_
          cases hk
          exact zi_rz rfl rfl (Or.inl rfl) (k w h)
        · rw [if_neg c8] at hk
          refine zi_a (st' := .int 1 :: _) rfl rfl rfl ?_
          refine zi_go rfl rfl rfl (tgt := 85) (by decide) ?_
          cases hk
          exact zi_rz rfl rfl (Or.inr rfl) (k w h)
def mF_areParts_86 (l1 : Int32) (l2 : Int32) (l3 : Int32) (l4 : Int32) (μ : mS) : Option (Int32 × mS) :=
  match mF_isPlace l2 μ with | none => none | some (v2, m3) => if v2 = 0 then (some ((0 : Int32), m3)) else (match mF_isValue l3 m3 with | none => none | some (v6, m7) => if v6 = 0 then (some ((0 : Int32), m7)) else (some ((1 : Int32), m7)))
theorem mT_areParts_86 {S : zS} {q : Nat} {w w0 : zW} {Post : Option Value → zW → Prop} {m0 : Nat} {μ μ2 : mS} {v : Int32} {l1 : Int32} {l2 : Int32} {l3 : Int32} {l4 : Int32} (hq : 2 ≤ q) (hk : mF_areParts_86 l1 l2 l3 l4 μ = some (v, μ2)) (h : mW m0 w0 μ w) (k : ∀ w2, mW m0 w0 μ2 w2 → Post (some (.int v)) w2) : zOk S (q + 1) 73 86 [(0, .ref m0), (1, .int l1), (2, .int l2), (3, .int l3), (4, .int l4)] [] w Post := by
  unfold mF_areParts_86 at hk
  refine zi_l rfl rfl rfl ?_
  cases c1 : mF_isPlace l2 μ with
  | none => rw [c1] at hk; cases hk
  | some q1 =>
    obtain ⟨v2, m3⟩ := q1
    rw [c1] at hk
    dsimp only at hk
    refine zi_s rfl rfl rfl rfl rfl ((mT_isPlace (q := 0) (Nat.le_refl _) c1 h (fun w h => ?_)).deep (by omega))
    refine zi_ifd rfl rfl rfl (tgt := 105) (by decide) (fun c4 => ?_) (fun c4 => ?_)
    · rw [if_pos c4] at hk
      refine zi_a (st' := .int 0 :: _) rfl rfl rfl ?_
      cases hk
      exact zi_rz rfl rfl (Or.inl rfl) (k w h)
    · rw [if_neg c4] at hk
      refine zi_l rfl rfl rfl ?_
      refine zi_l rfl rfl rfl ?_
      cases c5 : mF_isValue l3 m3 with
      | none => rw [c5] at hk; cases hk
      | some q1 =>
        obtain ⟨v6, m7⟩ := q1
        rw [c5] at hk
        dsimp only at hk
        refine zm_c h rfl rfl rfl rfl rfl rfl ((mT_isValue (q := 1) (Nat.le_refl _) c5 h (fun w h => ?_)).deep (by omega))
        refine zi_ifd rfl rfl rfl (tgt := 105) (by decide) (fun c8 => ?_) (fun c8 => ?_)
        · rw [if_pos c8] at hk
          refine zi_a (st' := .int 0 :: _) rfl rfl rfl ?_
          cases hk
          exact zi_rz rfl rfl (Or.inl rfl) (k w h)
        · rw [if_neg c8] at hk
          refine zi_a (st' := .int 1 :: _) rfl rfl rfl ?_
          refine zi_go rfl rfl rfl (tgt := 106) (by decide) ?_
          cases hk
          exact zi_rz rfl rfl (Or.inr rfl) (k w h)
def mF_areParts_107 (l1 : Int32) (l2 : Int32) (l3 : Int32) (l4 : Int32) (μ : mS) : Option (Int32 × mS) :=
  match mF_isValue l2 μ with | none => none | some (v2, m3) => if v2 = 0 ∨ v2 = 1 then some (v2, m3) else none
theorem mT_areParts_107 {S : zS} {q : Nat} {w w0 : zW} {Post : Option Value → zW → Prop} {m0 : Nat} {μ μ2 : mS} {v : Int32} {l1 : Int32} {l2 : Int32} {l3 : Int32} {l4 : Int32} (hq : 2 ≤ q) (hk : mF_areParts_107 l1 l2 l3 l4 μ = some (v, μ2)) (h : mW m0 w0 μ w) (k : ∀ w2, mW m0 w0 μ2 w2 → Post (some (.int v)) w2) : zOk S (q + 1) 73 107 [(0, .ref m0), (1, .int l1), (2, .int l2), (3, .int l3), (4, .int l4)] [] w Post := by
  unfold mF_areParts_107 at hk
  refine zi_l rfl rfl rfl ?_
  refine zi_l rfl rfl rfl ?_
  cases c1 : mF_isValue l2 μ with
  | none => rw [c1] at hk; cases hk
  | some q1 =>
    obtain ⟨v2, m3⟩ := q1
    rw [c1] at hk
    dsimp only at hk
    refine zm_c h rfl rfl rfl rfl rfl rfl ((mT_isValue (q := 1) (Nat.le_refl _) c1 h (fun w h => ?_)).deep (by omega))
    by_cases q4 : v2 = 0 ∨ v2 = 1
    case neg => rw [if_neg q4] at hk; cases hk
    rw [if_pos q4] at hk
    cases hk
    exact zi_rz rfl rfl q4 (k w h)
def mF_areParts_144 (l1 : Int32) (l2 : Int32) (l3 : Int32) (l4 : Int32) (μ : mS) : Option (Int32 × mS) :=
  some ((1 : Int32), μ)
theorem mT_areParts_144 {S : zS} {q : Nat} {w w0 : zW} {Post : Option Value → zW → Prop} {m0 : Nat} {μ μ2 : mS} {v : Int32} {l1 : Int32} {l2 : Int32} {l3 : Int32} {l4 : Int32} (hq : 2 ≤ q) (hk : mF_areParts_144 l1 l2 l3 l4 μ = some (v, μ2)) (h : mW m0 w0 μ w) (k : ∀ w2, mW m0 w0 μ2 w2 → Post (some (.int v)) w2) : zOk S (q + 1) 73 144 [(0, .ref m0), (1, .int l1), (2, .int l2), (3, .int l3), (4, .int l4)] [] w Post := by
  unfold mF_areParts_144 at hk
  refine zi_a (st' := .int 1 :: _) rfl rfl rfl ?_
  refine zi_go rfl rfl rfl (tgt := 149) (by decide) ?_
  cases hk
  exact zi_rz rfl rfl (Or.inr rfl) (k w h)
def mF_areParts (a1 : Int32) (a2 : Int32) (a3 : Int32) (a4 : Int32) (μ : mS) : Option (Int32 × mS) :=
  if (a1).toInt < 10 ∨ 21 < (a1).toInt then (if a1 < 0 then (some ((0 : Int32), μ)) else (if (5 : Int32) < a1 then (some ((0 : Int32), μ)) else (match mF_isValue a2 μ with | none => none | some (v5, m6) => if v5 = 0 then (some ((0 : Int32), m6)) else (match mF_isValue a3 m6 with | none => none | some (v9, m10) => if v9 = 0 then (some ((0 : Int32), m10)) else (some ((1 : Int32), m10)))))) else if a1 = 10 then (mF_areParts_64  a1 a2 a3 a4 μ) else if a1 = 11 then (mF_areParts_86  a1 a2 a3 a4 μ) else if a1 = 12 then (mF_areParts_86  a1 a2 a3 a4 μ) else if a1 = 13 then (mF_areParts_107  a1 a2 a3 a4 μ) else if a1 = 14 then (mF_areParts_107  a1 a2 a3 a4 μ) else if a1 = 15 then (mF_areParts_64  a1 a2 a3 a4 μ) else if a1 = 16 then (match mF_isValue a2 μ with | none => none | some (v20, m21) => if v20 = 0 then (some ((0 : Int32), m21)) else (match mF_isStatement a3 m21 with | none => none | some (v24, m25) => if v24 = 0 then (some ((0 : Int32), m25)) else (if a4 = (-1 : Int32) then (mF_areParts_144  a1 a2 a3 a4 m25) else (match mF_isStatement a4 m25 with | none => none | some (v29, m30) => if v29 = 0 then (some ((0 : Int32), m30)) else (mF_areParts_144  a1 a2 a3 a4 m30))))) else if a1 = 17 then (match mF_isValue a2 μ with | none => none | some (v34, m35) => if v34 = 0 then (some ((0 : Int32), m35)) else (match mF_isStatement a3 m35 with | none => none | some (v38, m39) => if v38 = 0 then (some ((0 : Int32), m39)) else (some ((1 : Int32), m39)))) else if a1 = 18 then (match mF_isValue a2 μ with | none => none | some (v43, m44) => if v43 = 0 then (some ((0 : Int32), m44)) else (match mF_isStatement a3 m44 with | none => none | some (v47, m48) => if v47 = 0 then (some ((0 : Int32), m48)) else (match mF_isStatement a4 m48 with | none => none | some (v51, m52) => if v51 = 0 then (some ((0 : Int32), m52)) else (some ((1 : Int32), m52))))) else if a1 = 19 then (match mF_isPlace a2 μ with | none => none | some (v56, m57) => if v56 = 0 then (some ((0 : Int32), m57)) else (match mF_isValue a3 m57 with | none => none | some (v60, m61) => if v60 = 0 then (some ((0 : Int32), m61)) else (match mF_isValue a4 m61 with | none => none | some (v64, m65) => if v64 = 0 then (some ((0 : Int32), m65)) else (some ((1 : Int32), m65))))) else if a1 = 20 then (match mF_isPlace a2 μ with | none => none | some (v69, m70) => if v69 = 0 ∨ v69 = 1 then some (v69, m70) else none) else if a1 = 21 then (match mF_isStatement a2 μ with | none => none | some (v74, m75) => if v74 = 0 then (some ((0 : Int32), m75)) else (match mF_isStatement a3 m75 with | none => none | some (v78, m79) => if v78 = 0 then (some ((0 : Int32), m79)) else (if zix a3 200 then if (m79.1 8 (a3).toNatClampNeg) = 0 then (some ((0 : Int32), m79)) else (some ((1 : Int32), m79)) else none))) else none
theorem mT_areParts {S : zS} {q : Nat} {w w0 : zW} {Post : Option Value → zW → Prop} {m0 : Nat} {μ μ2 : mS} {v : Int32} {a1 : Int32} {a2 : Int32} {a3 : Int32} {a4 : Int32} (hq : 2 ≤ q) (hk : mF_areParts a1 a2 a3 a4 μ = some (v, μ2)) (h : mW m0 w0 μ w) (k : ∀ w2, mW m0 w0 μ2 w2 → Post (some (.int v)) w2) : zOk S (q + 1) 73 0 (lv_args 0 [.ref m0, .int a1, .int a2, .int a3, .int a4]) [] w Post := by
  unfold mF_areParts at hk
  refine zi_l rfl rfl rfl ?_
  by_cases c1 : (a1).toInt < 10 ∨ 21 < (a1).toInt
  · rw [if_pos c1] at hk
    refine zi_sd rfl c1 (tgt := 269) (by decide) ?_
    refine zi_l rfl rfl rfl ?_
    refine zi_ifd rfl rfl rfl (tgt := 298) (by decide) (fun c2 => ?_) (fun c2 => ?_)
    · rw [if_pos c2] at hk
      refine zi_a (st' := .int 0 :: _) rfl rfl rfl ?_
      cases hk
      exact zi_rz rfl rfl (Or.inl rfl) (k w h)
    · rw [if_neg c2] at hk
      refine zi_l rfl rfl rfl ?_
      refine zi_a (st' := .int 5 :: _) rfl rfl rfl ?_
      refine zi_ifd rfl rfl rfl (tgt := 298) (by decide) (fun c3 => ?_) (fun c3 => ?_)
      · rw [if_pos c3] at hk
        refine zi_a (st' := .int 0 :: _) rfl rfl rfl ?_
        cases hk
        exact zi_rz rfl rfl (Or.inl rfl) (k w h)
      · rw [if_neg c3] at hk
        refine zi_l rfl rfl rfl ?_
        refine zi_l rfl rfl rfl ?_
        cases c4 : mF_isValue a2 μ with
        | none => rw [c4] at hk; cases hk
        | some q1 =>
          obtain ⟨v5, m6⟩ := q1
          rw [c4] at hk
          dsimp only at hk
          refine zm_c h rfl rfl rfl rfl rfl rfl ((mT_isValue (q := 1) (Nat.le_refl _) c4 h (fun w h => ?_)).deep (by omega))
          refine zi_ifd rfl rfl rfl (tgt := 298) (by decide) (fun c7 => ?_) (fun c7 => ?_)
          · rw [if_pos c7] at hk
            refine zi_a (st' := .int 0 :: _) rfl rfl rfl ?_
            cases hk
            exact zi_rz rfl rfl (Or.inl rfl) (k w h)
          · rw [if_neg c7] at hk
            refine zi_l rfl rfl rfl ?_
            refine zi_l rfl rfl rfl ?_
            cases c8 : mF_isValue a3 m6 with
            | none => rw [c8] at hk; cases hk
            | some q1 =>
              obtain ⟨v9, m10⟩ := q1
              rw [c8] at hk
              dsimp only at hk
              refine zm_c h rfl rfl rfl rfl rfl rfl ((mT_isValue (q := 1) (Nat.le_refl _) c8 h (fun w h => ?_)).deep (by omega))
              refine zi_ifd rfl rfl rfl (tgt := 298) (by decide) (fun c11 => ?_) (fun c11 => ?_)
              · rw [if_pos c11] at hk
                refine zi_a (st' := .int 0 :: _) rfl rfl rfl ?_
                cases hk
                exact zi_rz rfl rfl (Or.inl rfl) (k w h)
              · rw [if_neg c11] at hk
                refine zi_a (st' := .int 1 :: _) rfl rfl rfl ?_
                refine zi_go rfl rfl rfl (tgt := 299) (by decide) ?_
                cases hk
                exact zi_rz rfl rfl (Or.inr rfl) (k w h)
  rw [if_neg c1] at hk
  by_cases e12 : a1 = 10
  · rw [if_pos e12] at hk
    refine zi_si rfl c1 (off := 63) (by rw [e12]; rfl) (tgt := 64) (by decide) ?_
    exact mT_areParts_64 hq hk h k
  rw [if_neg e12] at hk
  by_cases e13 : a1 = 11
  · rw [if_pos e13] at hk
    refine zi_si rfl c1 (off := 85) (by rw [e13]; rfl) (tgt := 86) (by decide) ?_
    exact mT_areParts_86 hq hk h k
  rw [if_neg e13] at hk
  by_cases e14 : a1 = 12
  · rw [if_pos e14] at hk
    refine zi_si rfl c1 (off := 85) (by rw [e14]; rfl) (tgt := 86) (by decide) ?_
    exact mT_areParts_86 hq hk h k
  rw [if_neg e14] at hk
  by_cases e15 : a1 = 13
  · rw [if_pos e15] at hk
    refine zi_si rfl c1 (off := 106) (by rw [e15]; rfl) (tgt := 107) (by decide) ?_
    exact mT_areParts_107 hq hk h k
  rw [if_neg e15] at hk
  by_cases e16 : a1 = 14
  · rw [if_pos e16] at hk
    refine zi_si rfl c1 (off := 106) (by rw [e16]; rfl) (tgt := 107) (by decide) ?_
    exact mT_areParts_107 hq hk h k
  rw [if_neg e16] at hk
  by_cases e17 : a1 = 15
  · rw [if_pos e17] at hk
    refine zi_si rfl c1 (off := 63) (by rw [e17]; rfl) (tgt := 64) (by decide) ?_
    exact mT_areParts_64 hq hk h k
  rw [if_neg e17] at hk
  by_cases e18 : a1 = 16
  · rw [if_pos e18] at hk
    refine zi_si rfl c1 (off := 112) (by rw [e18]; rfl) (tgt := 113) (by decide) ?_
    refine zi_l rfl rfl rfl ?_
    refine zi_l rfl rfl rfl ?_
    cases c19 : mF_isValue a2 μ with
    | none => rw [c19] at hk; cases hk
    | some q1 =>
      obtain ⟨v20, m21⟩ := q1
      rw [c19] at hk
      dsimp only at hk
      refine zm_c h rfl rfl rfl rfl rfl rfl ((mT_isValue (q := 1) (Nat.le_refl _) c19 h (fun w h => ?_)).deep (by omega))
      refine zi_ifd rfl rfl rfl (tgt := 148) (by decide) (fun c22 => ?_) (fun c22 => ?_)
      · rw [if_pos c22] at hk
        refine zi_a (st' := .int 0 :: _) rfl rfl rfl ?_
        cases hk
        exact zi_rz rfl rfl (Or.inl rfl) (k w h)
      · rw [if_neg c22] at hk
        refine zi_l rfl rfl rfl ?_
        refine zi_l rfl rfl rfl ?_
        cases c23 : mF_isStatement a3 m21 with
        | none => rw [c23] at hk; cases hk
        | some q1 =>
          obtain ⟨v24, m25⟩ := q1
          rw [c23] at hk
          dsimp only at hk
          refine zm_c h rfl rfl rfl rfl rfl rfl ((mT_isStatement (q := 1) (Nat.le_refl _) c23 h (fun w h => ?_)).deep (by omega))
          refine zi_ifd rfl rfl rfl (tgt := 148) (by decide) (fun c26 => ?_) (fun c26 => ?_)
          · rw [if_pos c26] at hk
            refine zi_a (st' := .int 0 :: _) rfl rfl rfl ?_
            cases hk
            exact zi_rz rfl rfl (Or.inl rfl) (k w h)
          · rw [if_neg c26] at hk
            refine zi_l rfl rfl rfl ?_
            refine zi_a (st' := .int (-1) :: _) rfl rfl rfl ?_
            refine zi_ifd rfl rfl rfl (tgt := 144) (by decide) (fun c27 => ?_) (fun c27 => ?_)
            · rw [if_pos c27] at hk
              exact mT_areParts_144 hq hk h k
            · rw [if_neg c27] at hk
              refine zi_l rfl rfl rfl ?_
              refine zi_l rfl rfl rfl ?_
              cases c28 : mF_isStatement a4 m25 with
              | none => rw [c28] at hk; cases hk
              | some q1 =>
                obtain ⟨v29, m30⟩ := q1
                rw [c28] at hk
                dsimp only at hk
                refine zm_c h rfl rfl rfl rfl rfl rfl ((mT_isStatement (q := 1) (Nat.le_refl _) c28 h (fun w h => ?_)).deep (by omega))
                refine zi_ifd rfl rfl rfl (tgt := 148) (by decide) (fun c31 => ?_) (fun c31 => ?_)
                · rw [if_pos c31] at hk
                  refine zi_a (st' := .int 0 :: _) rfl rfl rfl ?_
                  cases hk
                  exact zi_rz rfl rfl (Or.inl rfl) (k w h)
                · rw [if_neg c31] at hk
                  exact mT_areParts_144 hq hk h k
  rw [if_neg e18] at hk
  by_cases e32 : a1 = 17
  · rw [if_pos e32] at hk
    refine zi_si rfl c1 (off := 149) (by rw [e32]; rfl) (tgt := 150) (by decide) ?_
    refine zi_l rfl rfl rfl ?_
    refine zi_l rfl rfl rfl ?_
    cases c33 : mF_isValue a2 μ with
    | none => rw [c33] at hk; cases hk
    | some q1 =>
      obtain ⟨v34, m35⟩ := q1
      rw [c33] at hk
      dsimp only at hk
      refine zm_c h rfl rfl rfl rfl rfl rfl ((mT_isValue (q := 1) (Nat.le_refl _) c33 h (fun w h => ?_)).deep (by omega))
      refine zi_ifd rfl rfl rfl (tgt := 170) (by decide) (fun c36 => ?_) (fun c36 => ?_)
      · rw [if_pos c36] at hk
        refine zi_a (st' := .int 0 :: _) rfl rfl rfl ?_
        cases hk
        exact zi_rz rfl rfl (Or.inl rfl) (k w h)
      · rw [if_neg c36] at hk
        refine zi_l rfl rfl rfl ?_
        refine zi_l rfl rfl rfl ?_
        cases c37 : mF_isStatement a3 m35 with
        | none => rw [c37] at hk; cases hk
        | some q1 =>
          obtain ⟨v38, m39⟩ := q1
          rw [c37] at hk
          dsimp only at hk
          refine zm_c h rfl rfl rfl rfl rfl rfl ((mT_isStatement (q := 1) (Nat.le_refl _) c37 h (fun w h => ?_)).deep (by omega))
          refine zi_ifd rfl rfl rfl (tgt := 170) (by decide) (fun c40 => ?_) (fun c40 => ?_)
          · rw [if_pos c40] at hk
            refine zi_a (st' := .int 0 :: _) rfl rfl rfl ?_
            cases hk
            exact zi_rz rfl rfl (Or.inl rfl) (k w h)
          · rw [if_neg c40] at hk
            refine zi_a (st' := .int 1 :: _) rfl rfl rfl ?_
            refine zi_go rfl rfl rfl (tgt := 171) (by decide) ?_
            cases hk
            exact zi_rz rfl rfl (Or.inr rfl) (k w h)
  rw [if_neg e32] at hk
  by_cases e41 : a1 = 18
  · rw [if_pos e41] at hk
    refine zi_si rfl c1 (off := 171) (by rw [e41]; rfl) (tgt := 172) (by decide) ?_
    refine zi_l rfl rfl rfl ?_
    refine zi_l rfl rfl rfl ?_
    cases c42 : mF_isValue a2 μ with
    | none => rw [c42] at hk; cases hk
    | some q1 =>
      obtain ⟨v43, m44⟩ := q1
      rw [c42] at hk
      dsimp only at hk
      refine zm_c h rfl rfl rfl rfl rfl rfl ((mT_isValue (q := 1) (Nat.le_refl _) c42 h (fun w h => ?_)).deep (by omega))
      refine zi_ifd rfl rfl rfl (tgt := 201) (by decide) (fun c45 => ?_) (fun c45 => ?_)
      · rw [if_pos c45] at hk
        refine zi_a (st' := .int 0 :: _) rfl rfl rfl ?_
        cases hk
        exact zi_rz rfl rfl (Or.inl rfl) (k w h)
      · rw [if_neg c45] at hk
        refine zi_l rfl rfl rfl ?_
        refine zi_l rfl rfl rfl ?_
        cases c46 : mF_isStatement a3 m44 with
        | none => rw [c46] at hk; cases hk
        | some q1 =>
          obtain ⟨v47, m48⟩ := q1
          rw [c46] at hk
          dsimp only at hk
          refine zm_c h rfl rfl rfl rfl rfl rfl ((mT_isStatement (q := 1) (Nat.le_refl _) c46 h (fun w h => ?_)).deep (by omega))
          refine zi_ifd rfl rfl rfl (tgt := 201) (by decide) (fun c49 => ?_) (fun c49 => ?_)
          · rw [if_pos c49] at hk
            refine zi_a (st' := .int 0 :: _) rfl rfl rfl ?_
            cases hk
            exact zi_rz rfl rfl (Or.inl rfl) (k w h)
          · rw [if_neg c49] at hk
            refine zi_l rfl rfl rfl ?_
            refine zi_l rfl rfl rfl ?_
            cases c50 : mF_isStatement a4 m48 with
            | none => rw [c50] at hk; cases hk
            | some q1 =>
              obtain ⟨v51, m52⟩ := q1
              rw [c50] at hk
              dsimp only at hk
              refine zm_c h rfl rfl rfl rfl rfl rfl ((mT_isStatement (q := 1) (Nat.le_refl _) c50 h (fun w h => ?_)).deep (by omega))
              refine zi_ifd rfl rfl rfl (tgt := 201) (by decide) (fun c53 => ?_) (fun c53 => ?_)
              · rw [if_pos c53] at hk
                refine zi_a (st' := .int 0 :: _) rfl rfl rfl ?_
                cases hk
                exact zi_rz rfl rfl (Or.inl rfl) (k w h)
              · rw [if_neg c53] at hk
                refine zi_a (st' := .int 1 :: _) rfl rfl rfl ?_
                refine zi_go rfl rfl rfl (tgt := 202) (by decide) ?_
                cases hk
                exact zi_rz rfl rfl (Or.inr rfl) (k w h)
  rw [if_neg e41] at hk
  by_cases e54 : a1 = 19
  · rw [if_pos e54] at hk
    refine zi_si rfl c1 (off := 202) (by rw [e54]; rfl) (tgt := 203) (by decide) ?_
    refine zi_l rfl rfl rfl ?_
    cases c55 : mF_isPlace a2 μ with
    | none => rw [c55] at hk; cases hk
    | some q1 =>
      obtain ⟨v56, m57⟩ := q1
      rw [c55] at hk
      dsimp only at hk
      refine zi_s rfl rfl rfl rfl rfl ((mT_isPlace (q := 0) (Nat.le_refl _) c55 h (fun w h => ?_)).deep (by omega))
      refine zi_ifd rfl rfl rfl (tgt := 231) (by decide) (fun c58 => ?_) (fun c58 => ?_)
      · rw [if_pos c58] at hk
        refine zi_a (st' := .int 0 :: _) rfl rfl rfl ?_
        cases hk
        exact zi_rz rfl rfl (Or.inl rfl) (k w h)
      · rw [if_neg c58] at hk
        refine zi_l rfl rfl rfl ?_
        refine zi_l rfl rfl rfl ?_
        cases c59 : mF_isValue a3 m57 with
        | none => rw [c59] at hk; cases hk
        | some q1 =>
          obtain ⟨v60, m61⟩ := q1
          rw [c59] at hk
          dsimp only at hk
          refine zm_c h rfl rfl rfl rfl rfl rfl ((mT_isValue (q := 1) (Nat.le_refl _) c59 h (fun w h => ?_)).deep (by omega))
          refine zi_ifd rfl rfl rfl (tgt := 231) (by decide) (fun c62 => ?_) (fun c62 => ?_)
          · rw [if_pos c62] at hk
            refine zi_a (st' := .int 0 :: _) rfl rfl rfl ?_
            cases hk
            exact zi_rz rfl rfl (Or.inl rfl) (k w h)
          · rw [if_neg c62] at hk
            refine zi_l rfl rfl rfl ?_
            refine zi_l rfl rfl rfl ?_
            cases c63 : mF_isValue a4 m61 with
            | none => rw [c63] at hk; cases hk
            | some q1 =>
              obtain ⟨v64, m65⟩ := q1
              rw [c63] at hk
              dsimp only at hk
              refine zm_c h rfl rfl rfl rfl rfl rfl ((mT_isValue (q := 1) (Nat.le_refl _) c63 h (fun w h => ?_)).deep (by omega))
              refine zi_ifd rfl rfl rfl (tgt := 231) (by decide) (fun c66 => ?_) (fun c66 => ?_)
              · rw [if_pos c66] at hk
                refine zi_a (st' := .int 0 :: _) rfl rfl rfl ?_
                cases hk
                exact zi_rz rfl rfl (Or.inl rfl) (k w h)
              · rw [if_neg c66] at hk
                refine zi_a (st' := .int 1 :: _) rfl rfl rfl ?_
                refine zi_go rfl rfl rfl (tgt := 232) (by decide) ?_
                cases hk
                exact zi_rz rfl rfl (Or.inr rfl) (k w h)
  rw [if_neg e54] at hk
  by_cases e67 : a1 = 20
  · rw [if_pos e67] at hk
    refine zi_si rfl c1 (off := 232) (by rw [e67]; rfl) (tgt := 233) (by decide) ?_
    refine zi_l rfl rfl rfl ?_
    cases c68 : mF_isPlace a2 μ with
    | none => rw [c68] at hk; cases hk
    | some q1 =>
      obtain ⟨v69, m70⟩ := q1
      rw [c68] at hk
      dsimp only at hk
      refine zi_s rfl rfl rfl rfl rfl ((mT_isPlace (q := 0) (Nat.le_refl _) c68 h (fun w h => ?_)).deep (by omega))
      by_cases q71 : v69 = 0 ∨ v69 = 1
      case neg => rw [if_neg q71] at hk; cases hk
      rw [if_pos q71] at hk
      cases hk
      exact zi_rz rfl rfl q71 (k w h)
  rw [if_neg e67] at hk
  by_cases e72 : a1 = 21
  · rw [if_pos e72] at hk
    refine zi_si rfl c1 (off := 237) (by rw [e72]; rfl) (tgt := 238) (by decide) ?_
    refine zi_l rfl rfl rfl ?_
    refine zi_l rfl rfl rfl ?_
    cases c73 : mF_isStatement a2 μ with
    | none => rw [c73] at hk; cases hk
    | some q1 =>
      obtain ⟨v74, m75⟩ := q1
      rw [c73] at hk
      dsimp only at hk
      refine zm_c h rfl rfl rfl rfl rfl rfl ((mT_isStatement (q := 1) (Nat.le_refl _) c73 h (fun w h => ?_)).deep (by omega))
      refine zi_ifd rfl rfl rfl (tgt := 267) (by decide) (fun c76 => ?_) (fun c76 => ?_)
      · rw [if_pos c76] at hk
        refine zi_a (st' := .int 0 :: _) rfl rfl rfl ?_
        cases hk
        exact zi_rz rfl rfl (Or.inl rfl) (k w h)
      · rw [if_neg c76] at hk
        refine zi_l rfl rfl rfl ?_
        refine zi_l rfl rfl rfl ?_
        cases c77 : mF_isStatement a3 m75 with
        | none => rw [c77] at hk; cases hk
        | some q1 =>
          obtain ⟨v78, m79⟩ := q1
          rw [c77] at hk
          dsimp only at hk
          refine zm_c h rfl rfl rfl rfl rfl rfl ((mT_isStatement (q := 1) (Nat.le_refl _) c77 h (fun w h => ?_)).deep (by omega))
          refine zi_ifd rfl rfl rfl (tgt := 267) (by decide) (fun c80 => ?_) (fun c80 => ?_)
          · rw [if_pos c80] at hk
            refine zi_a (st' := .int 0 :: _) rfl rfl rfl ?_
            cases hk
            exact zi_rz rfl rfl (Or.inl rfl) (k w h)
          · rw [if_neg c80] at hk
            refine zi_l rfl rfl rfl ?_
            refine zm_ga (f := 8) h rfl rfl (by decide) ?_
            refine zi_l rfl rfl rfl ?_
            by_cases q81 : zix a3 200
            case neg => rw [if_neg q81] at hk; cases hk
            rw [if_pos q81] at hk
            refine zm_lz (f := 8) h rfl (by decide) rfl q81 ?_
            refine zi_ifd rfl rfl rfl (tgt := 267) (by decide) (fun c82 => ?_) (fun c82 => ?_)
            · rw [if_pos c82] at hk
              refine zi_a (st' := .int 0 :: _) rfl rfl rfl ?_
              cases hk
              exact zi_rz rfl rfl (Or.inl rfl) (k w h)
            · rw [if_neg c82] at hk
              refine zi_a (st' := .int 1 :: _) rfl rfl rfl ?_
              refine zi_go rfl rfl rfl (tgt := 268) (by decide) ?_
              cases hk
              exact zi_rz rfl rfl (Or.inr rfl) (k w h)
  rw [if_neg e72] at hk
  cases hk
def mF_node_258 (l1 : Int32) (l2 : Int32) (l3 : Int32) (l4 : Int32) (l5 : Int32) (l6 : Int32) (l7 : Int32) (l8 : Int32) (l9 : Int32) (l10 : Int32) (l11 : Int32) (l12 : Int32) (s1 : Int32) (s2 : Int32) (s3 : Int32) (s4 : Int32) (μ : mS) : Option (Int32 × mS) :=
  match mF_put s1 s2 s3 s4 (0 : Int64) l11 l12 μ with | none => none | some (v2, m3) => some (v2, m3)
theorem mT_node_258 {S : zS} {q : Nat} {w w0 : zW} {Post : Option Value → zW → Prop} {m0 : Nat} {μ μ2 : mS} {v : Int32} {l1 : Int32} {l2 : Int32} {l3 : Int32} {l4 : Int32} {l5 : Int32} {l6 : Int32} {l7 : Int32} {l8 : Int32} {l9 : Int32} {l10 : Int32} {l11 : Int32} {l12 : Int32} {s1 : Int32} {s2 : Int32} {s3 : Int32} {s4 : Int32} (hq : 3 ≤ q) (hk : mF_node_258 l1 l2 l3 l4 l5 l6 l7 l8 l9 l10 l11 l12 s1 s2 s3 s4 μ = some (v, μ2)) (h : mW m0 w0 μ w) (k : ∀ w2, mW m0 w0 μ2 w2 → Post (some (.int v)) w2) : zOk S (q + 1) 72 258 [(0, .ref m0), (1, .int l1), (2, .int l2), (3, .int l3), (4, .int l4), (5, .int l5), (6, .int l6), (7, .int l7), (8, .int l8), (9, .int l9), (10, .int l10), (11, .int l11), (12, .int l12)] [.int s4, .int s3, .int s2, .int s1, .ref m0] w Post := by
  unfold mF_node_258 at hk
  refine zi_a (st' := .long 0 :: _) rfl rfl rfl ?_
  refine zi_l rfl rfl rfl ?_
  refine zi_l rfl rfl rfl ?_
  cases c1 : mF_put s1 s2 s3 s4 (0 : Int64) l11 l12 μ with
  | none => rw [c1] at hk; cases hk
  | some q1 =>
    obtain ⟨v2, m3⟩ := q1
    rw [c1] at hk
    dsimp only at hk
    refine zm_c h rfl rfl rfl rfl rfl rfl ((mT_put (q := 0) (Nat.le_refl _) c1 h (fun w h => ?_)).deep (by omega))
    cases hk
    exact zi_ri rfl rfl (k w h)
def mF_node_247 (l1 : Int32) (l2 : Int32) (l3 : Int32) (l4 : Int32) (l5 : Int32) (l6 : Int32) (l7 : Int32) (l8 : Int32) (l9 : Int32) (l10 : Int32) (l11 : Int32) (l12 : Int32) (s1 : Int32) (s2 : Int32) (s3 : Int32) (μ : mS) : Option (Int32 × mS) :=
  if l7 = 0 then (mF_node_258  l1 l2 l3 l4 l5 l6 l7 l8 l9 l10 l11 l12 s1 s2 s3 (-1 : Int32) μ) else (mF_node_258  l1 l2 l3 l4 l5 l6 l7 l8 l9 l10 l11 l12 s1 s2 s3 l4 μ)
theorem mT_node_247 {S : zS} {q : Nat} {w w0 : zW} {Post : Option Value → zW → Prop} {m0 : Nat} {μ μ2 : mS} {v : Int32} {l1 : Int32} {l2 : Int32} {l3 : Int32} {l4 : Int32} {l5 : Int32} {l6 : Int32} {l7 : Int32} {l8 : Int32} {l9 : Int32} {l10 : Int32} {l11 : Int32} {l12 : Int32} {s1 : Int32} {s2 : Int32} {s3 : Int32} (hq : 3 ≤ q) (hk : mF_node_247 l1 l2 l3 l4 l5 l6 l7 l8 l9 l10 l11 l12 s1 s2 s3 μ = some (v, μ2)) (h : mW m0 w0 μ w) (k : ∀ w2, mW m0 w0 μ2 w2 → Post (some (.int v)) w2) : zOk S (q + 1) 72 247 [(0, .ref m0), (1, .int l1), (2, .int l2), (3, .int l3), (4, .int l4), (5, .int l5), (6, .int l6), (7, .int l7), (8, .int l8), (9, .int l9), (10, .int l10), (11, .int l11), (12, .int l12)] [.int s3, .int s2, .int s1, .ref m0] w Post := by
  unfold mF_node_247 at hk
  refine zi_l rfl rfl rfl ?_
  refine zi_ifd rfl rfl rfl (tgt := 257) (by decide) (fun c1 => ?_) (fun c1 => ?_)
  · rw [if_pos c1] at hk
    refine zi_a (st' := .int (-1) :: _) rfl rfl rfl ?_
    exact mT_node_258 hq hk h k
  · rw [if_neg c1] at hk
    refine zi_l rfl rfl rfl ?_
    refine zi_go rfl rfl rfl (tgt := 258) (by decide) ?_
    exact mT_node_258 hq hk h k
def mF_node_202 (l1 : Int32) (l2 : Int32) (l3 : Int32) (l4 : Int32) (l5 : Int32) (l6 : Int32) (l7 : Int32) (l8 : Int32) (l9 : Int32) (l10 : Int32) (l11 : Int32) (s0 : Int32) (μ : mS) : Option (Int32 × mS) :=
  if (30 : Int32) < l11 then (some ((-1 : Int32), μ)) else (if s0 ≤ (200 : Int32) then (if ¬ (μ.1 0 0) = (200 : Int32) then (if l6 = 0 then (mF_node_247  l1 l2 l3 l4 l5 l6 l7 l8 l9 l10 l11 s0 l1 l2 (-1 : Int32) μ) else (mF_node_247  l1 l2 l3 l4 l5 l6 l7 l8 l9 l10 l11 s0 l1 l2 l3 μ)) else (some ((-2 : Int32), μ))) else (some ((-1 : Int32), μ)))
theorem mT_node_202 {S : zS} {q : Nat} {w w0 : zW} {Post : Option Value → zW → Prop} {m0 : Nat} {μ μ2 : mS} {v : Int32} {l1 : Int32} {l2 : Int32} {l3 : Int32} {l4 : Int32} {l5 : Int32} {l6 : Int32} {l7 : Int32} {l8 : Int32} {l9 : Int32} {l10 : Int32} {l11 : Int32} {s0 : Int32} (hq : 3 ≤ q) (hk : mF_node_202 l1 l2 l3 l4 l5 l6 l7 l8 l9 l10 l11 s0 μ = some (v, μ2)) (h : mW m0 w0 μ w) (k : ∀ w2, mW m0 w0 μ2 w2 → Post (some (.int v)) w2) : zOk S (q + 1) 72 202 [(0, .ref m0), (1, .int l1), (2, .int l2), (3, .int l3), (4, .int l4), (5, .int l5), (6, .int l6), (7, .int l7), (8, .int l8), (9, .int l9), (10, .int l10), (11, .int l11)] [.int s0] w Post := by
  unfold mF_node_202 at hk
  refine zi_l rfl rfl rfl ?_
  refine zi_l rfl rfl rfl ?_
  refine zi_a (st' := .int 30 :: _) rfl rfl rfl ?_
  refine zi_ifd rfl rfl rfl (tgt := 219) (by decide) (fun c1 => ?_) (fun c1 => ?_)
  · rw [if_pos c1] at hk
    refine zi_a (st' := .int (-1) :: _) rfl rfl rfl ?_
    cases hk
    exact zi_ri rfl rfl (k w h)
  · rw [if_neg c1] at hk
    refine zi_l rfl rfl rfl ?_
    refine zi_a (st' := .int 200 :: _) rfl rfl rfl ?_
    refine zi_ifd rfl rfl rfl (tgt := 221) (by decide) (fun c2 => ?_) (fun c2 => ?_)
    · rw [if_pos c2] at hk
      refine zi_l rfl rfl rfl ?_
      refine zm_g h rfl rfl rfl rfl ?_
      refine zi_a (st' := .int 200 :: _) rfl rfl rfl ?_
      refine zi_ifd rfl rfl rfl (tgt := 234) (by decide) (fun c3 => ?_) (fun c3 => ?_)
      · rw [if_pos c3] at hk
        refine zi_l rfl rfl rfl ?_
        refine zi_l rfl rfl rfl ?_
        refine zi_l rfl rfl rfl ?_
        refine zi_l rfl rfl rfl ?_
        refine zi_ifd rfl rfl rfl (tgt := 246) (by decide) (fun c4 => ?_) (fun c4 => ?_)
        · rw [if_pos c4] at hk
          refine zi_a (st' := .int (-1) :: _) rfl rfl rfl ?_
          exact mT_node_247 hq hk h k
        · rw [if_neg c4] at hk
          refine zi_l rfl rfl rfl ?_
          refine zi_go rfl rfl rfl (tgt := 247) (by decide) ?_
          exact mT_node_247 hq hk h k
      · rw [if_neg c3] at hk
        refine zi_a (st' := .int (-2) :: _) rfl rfl rfl ?_
        cases hk
        exact zi_ri rfl rfl (k w h)
    · rw [if_neg c2] at hk
      refine zi_a (st' := .int (-1) :: _) rfl rfl rfl ?_
      cases hk
      exact zi_ri rfl rfl (k w h)
def mF_node_175 (l1 : Int32) (l2 : Int32) (l3 : Int32) (l4 : Int32) (l5 : Int32) (l6 : Int32) (l7 : Int32) (l8 : Int32) (l9 : Int32) (l10 : Int32) (l11 : Int32) (s0 : Int32) (s1 : Int32) (μ : mS) : Option (Int32 × mS) :=
  if (5 : Int32) < l1 then (mF_node_202  l1 l2 l3 l4 l5 l6 l7 l8 l9 l10 (s0 + s1) (0 : Int32) μ) else (if zix l2 200 then if zix l3 200 then mF_node_202  l1 l2 l3 l4 l5 l6 l7 l8 l9 l10 (s0 + s1) (((1 : Int32) + (μ.1 7 (l2).toNatClampNeg)) + (μ.1 7 (l3).toNatClampNeg)) μ else none else none)
theorem mT_node_175 {S : zS} {q : Nat} {w w0 : zW} {Post : Option Value → zW → Prop} {m0 : Nat} {μ μ2 : mS} {v : Int32} {l1 : Int32} {l2 : Int32} {l3 : Int32} {l4 : Int32} {l5 : Int32} {l6 : Int32} {l7 : Int32} {l8 : Int32} {l9 : Int32} {l10 : Int32} {l11 : Int32} {s0 : Int32} {s1 : Int32} (hq : 3 ≤ q) (hk : mF_node_175 l1 l2 l3 l4 l5 l6 l7 l8 l9 l10 l11 s0 s1 μ = some (v, μ2)) (h : mW m0 w0 μ w) (k : ∀ w2, mW m0 w0 μ2 w2 → Post (some (.int v)) w2) : zOk S (q + 1) 72 175 [(0, .ref m0), (1, .int l1), (2, .int l2), (3, .int l3), (4, .int l4), (5, .int l5), (6, .int l6), (7, .int l7), (8, .int l8), (9, .int l9), (10, .int l10), (11, .int l11)] [.int s1, .int s0] w Post := by
  unfold mF_node_175 at hk
  refine zi_a rfl rfl rfl ?_
  refine zi_l rfl rfl rfl ?_
  refine zi_l rfl rfl rfl ?_
  refine zi_a (st' := .int 5 :: _) rfl rfl rfl ?_
  refine zi_ifd rfl rfl rfl (tgt := 201) (by decide) (fun c1 => ?_) (fun c1 => ?_)
  · rw [if_pos c1] at hk
    refine zi_a (st' := .int 0 :: _) rfl rfl rfl ?_
    exact mT_node_202 hq hk h k
  · rw [if_neg c1] at hk
    refine zi_a (st' := .int 1 :: _) rfl rfl rfl ?_
    refine zi_l rfl rfl rfl ?_
    refine zm_ga (f := 7) h rfl rfl (by decide) ?_
    refine zi_l rfl rfl rfl ?_
    by_cases q2 : zix l2 200
    case neg => rw [if_neg q2] at hk; cases hk
    rw [if_pos q2] at hk
    refine zm_ld (f := 7) h rfl (by decide) rfl q2 ?_
    refine zi_a rfl rfl rfl ?_
    refine zi_l rfl rfl rfl ?_
    refine zm_ga (f := 7) h rfl rfl (by decide) ?_
    refine zi_l rfl rfl rfl ?_
    by_cases q3 : zix l3 200
    case neg => rw [if_neg q3] at hk; cases hk
    rw [if_pos q3] at hk
    refine zm_ld (f := 7) h rfl (by decide) rfl q3 ?_
    refine zi_a rfl rfl rfl ?_
    refine zi_go rfl rfl rfl (tgt := 202) (by decide) ?_
    exact mT_node_202 hq hk h k
def mF_node_158 (l1 : Int32) (l2 : Int32) (l3 : Int32) (l4 : Int32) (l5 : Int32) (l6 : Int32) (l7 : Int32) (l8 : Int32) (l9 : Int32) (l10 : Int32) (s0 : Int32) (μ : mS) : Option (Int32 × mS) :=
  if s0 ≤ l10 then (mF_node_175  l1 l2 l3 l4 l5 l6 l7 l8 l9 l10 s0 (1 : Int32) l10 μ) else (mF_node_175  l1 l2 l3 l4 l5 l6 l7 l8 l9 l10 s0 (1 : Int32) s0 μ)
theorem mT_node_158 {S : zS} {q : Nat} {w w0 : zW} {Post : Option Value → zW → Prop} {m0 : Nat} {μ μ2 : mS} {v : Int32} {l1 : Int32} {l2 : Int32} {l3 : Int32} {l4 : Int32} {l5 : Int32} {l6 : Int32} {l7 : Int32} {l8 : Int32} {l9 : Int32} {l10 : Int32} {s0 : Int32} (hq : 3 ≤ q) (hk : mF_node_158 l1 l2 l3 l4 l5 l6 l7 l8 l9 l10 s0 μ = some (v, μ2)) (h : mW m0 w0 μ w) (k : ∀ w2, mW m0 w0 μ2 w2 → Post (some (.int v)) w2) : zOk S (q + 1) 72 158 [(0, .ref m0), (1, .int l1), (2, .int l2), (3, .int l3), (4, .int l4), (5, .int l5), (6, .int l6), (7, .int l7), (8, .int l8), (9, .int l9), (10, .int l10)] [.int s0] w Post := by
  unfold mF_node_158 at hk
  refine zi_l rfl rfl rfl ?_
  refine zi_a (st' := .int 1 :: _) rfl rfl rfl ?_
  refine zi_l rfl rfl rfl ?_
  refine zi_l rfl rfl rfl ?_
  refine zi_ifd rfl rfl rfl (tgt := 173) (by decide) (fun c1 => ?_) (fun c1 => ?_)
  · rw [if_pos c1] at hk
    refine zi_l rfl rfl rfl ?_
    exact mT_node_175 hq hk h k
  · rw [if_neg c1] at hk
    refine zi_l rfl rfl rfl ?_
    refine zi_go rfl rfl rfl (tgt := 175) (by decide) ?_
    exact mT_node_175 hq hk h k
def mF_node_142 (l1 : Int32) (l2 : Int32) (l3 : Int32) (l4 : Int32) (l5 : Int32) (l6 : Int32) (l7 : Int32) (l8 : Int32) (l9 : Int32) (s0 : Int32) (μ : mS) : Option (Int32 × mS) :=
  if l8 ≤ l9 then (mF_node_158  l1 l2 l3 l4 l5 l6 l7 l8 l9 s0 l9 μ) else (mF_node_158  l1 l2 l3 l4 l5 l6 l7 l8 l9 s0 l8 μ)
theorem mT_node_142 {S : zS} {q : Nat} {w w0 : zW} {Post : Option Value → zW → Prop} {m0 : Nat} {μ μ2 : mS} {v : Int32} {l1 : Int32} {l2 : Int32} {l3 : Int32} {l4 : Int32} {l5 : Int32} {l6 : Int32} {l7 : Int32} {l8 : Int32} {l9 : Int32} {s0 : Int32} (hq : 3 ≤ q) (hk : mF_node_142 l1 l2 l3 l4 l5 l6 l7 l8 l9 s0 μ = some (v, μ2)) (h : mW m0 w0 μ w) (k : ∀ w2, mW m0 w0 μ2 w2 → Post (some (.int v)) w2) : zOk S (q + 1) 72 142 [(0, .ref m0), (1, .int l1), (2, .int l2), (3, .int l3), (4, .int l4), (5, .int l5), (6, .int l6), (7, .int l7), (8, .int l8), (9, .int l9)] [.int s0] w Post := by
  unfold mF_node_142 at hk
  refine zi_l rfl rfl rfl ?_
  refine zi_l rfl rfl rfl ?_
  refine zi_l rfl rfl rfl ?_
  refine zi_ifd rfl rfl rfl (tgt := 156) (by decide) (fun c1 => ?_) (fun c1 => ?_)
  · rw [if_pos c1] at hk
    refine zi_l rfl rfl rfl ?_
    exact mT_node_158 hq hk h k
  · rw [if_neg c1] at hk
    refine zi_l rfl rfl rfl ?_
    refine zi_go rfl rfl rfl (tgt := 158) (by decide) ?_
    exact mT_node_158 hq hk h k
def mF_node_125 (l1 : Int32) (l2 : Int32) (l3 : Int32) (l4 : Int32) (l5 : Int32) (l6 : Int32) (l7 : Int32) (l8 : Int32) (s0 : Int32) (μ : mS) : Option (Int32 × mS) :=
  if l7 = 0 then (mF_node_142  l1 l2 l3 l4 l5 l6 l7 l8 s0 (0 : Int32) μ) else (match mF_depth l4 μ with | none => none | some (v3, m4) => mF_node_142  l1 l2 l3 l4 l5 l6 l7 l8 s0 v3 m4)
theorem mT_node_125 {S : zS} {q : Nat} {w w0 : zW} {Post : Option Value → zW → Prop} {m0 : Nat} {μ μ2 : mS} {v : Int32} {l1 : Int32} {l2 : Int32} {l3 : Int32} {l4 : Int32} {l5 : Int32} {l6 : Int32} {l7 : Int32} {l8 : Int32} {s0 : Int32} (hq : 3 ≤ q) (hk : mF_node_125 l1 l2 l3 l4 l5 l6 l7 l8 s0 μ = some (v, μ2)) (h : mW m0 w0 μ w) (k : ∀ w2, mW m0 w0 μ2 w2 → Post (some (.int v)) w2) : zOk S (q + 1) 72 125 [(0, .ref m0), (1, .int l1), (2, .int l2), (3, .int l3), (4, .int l4), (5, .int l5), (6, .int l6), (7, .int l7), (8, .int l8)] [.int s0] w Post := by
  unfold mF_node_125 at hk
  refine zi_l rfl rfl rfl ?_
  refine zi_l rfl rfl rfl ?_
  refine zi_ifd rfl rfl rfl (tgt := 141) (by decide) (fun c1 => ?_) (fun c1 => ?_)
  · rw [if_pos c1] at hk
    refine zi_a (st' := .int 0 :: _) rfl rfl rfl ?_
    exact mT_node_142 hq hk h k
  · rw [if_neg c1] at hk
    refine zi_l rfl rfl rfl ?_
    refine zi_l rfl rfl rfl ?_
    cases c2 : mF_depth l4 μ with
    | none => rw [c2] at hk; cases hk
    | some q1 =>
      obtain ⟨v3, m4⟩ := q1
      rw [c2] at hk
      dsimp only at hk
      refine zm_c h rfl rfl rfl rfl rfl rfl ((mT_depth (q := 0) (Nat.le_refl _) c2 h (fun w h => ?_)).deep (by omega))
      refine zi_go rfl rfl rfl (tgt := 142) (by decide) ?_
      exact mT_node_142 hq hk h k
def mF_node_109 (l1 : Int32) (l2 : Int32) (l3 : Int32) (l4 : Int32) (l5 : Int32) (l6 : Int32) (l7 : Int32) (s0 : Int32) (μ : mS) : Option (Int32 × mS) :=
  if l6 = 0 then (mF_node_125  l1 l2 l3 l4 l5 l6 l7 s0 (0 : Int32) μ) else (match mF_depth l3 μ with | none => none | some (v3, m4) => mF_node_125  l1 l2 l3 l4 l5 l6 l7 s0 v3 m4)
theorem mT_node_109 {S : zS} {q : Nat} {w w0 : zW} {Post : Option Value → zW → Prop} {m0 : Nat} {μ μ2 : mS} {v : Int32} {l1 : Int32} {l2 : Int32} {l3 : Int32} {l4 : Int32} {l5 : Int32} {l6 : Int32} {l7 : Int32} {s0 : Int32} (hq : 3 ≤ q) (hk : mF_node_109 l1 l2 l3 l4 l5 l6 l7 s0 μ = some (v, μ2)) (h : mW m0 w0 μ w) (k : ∀ w2, mW m0 w0 μ2 w2 → Post (some (.int v)) w2) : zOk S (q + 1) 72 109 [(0, .ref m0), (1, .int l1), (2, .int l2), (3, .int l3), (4, .int l4), (5, .int l5), (6, .int l6), (7, .int l7)] [.int s0] w Post := by
  unfold mF_node_109 at hk
  refine zi_l rfl rfl rfl ?_
  refine zi_l rfl rfl rfl ?_
  refine zi_ifd rfl rfl rfl (tgt := 124) (by decide) (fun c1 => ?_) (fun c1 => ?_)
  · rw [if_pos c1] at hk
    refine zi_a (st' := .int 0 :: _) rfl rfl rfl ?_
    exact mT_node_125 hq hk h k
  · rw [if_neg c1] at hk
    refine zi_l rfl rfl rfl ?_
    refine zi_l rfl rfl rfl ?_
    cases c2 : mF_depth l3 μ with
    | none => rw [c2] at hk; cases hk
    | some q1 =>
      obtain ⟨v3, m4⟩ := q1
      rw [c2] at hk
      dsimp only at hk
      refine zm_c h rfl rfl rfl rfl rfl rfl ((mT_depth (q := 0) (Nat.le_refl _) c2 h (fun w h => ?_)).deep (by omega))
      refine zi_go rfl rfl rfl (tgt := 125) (by decide) ?_
      exact mT_node_125 hq hk h k
def mF_node_93 (l1 : Int32) (l2 : Int32) (l3 : Int32) (l4 : Int32) (l5 : Int32) (l6 : Int32) (s0 : Int32) (μ : mS) : Option (Int32 × mS) :=
  if l5 = 0 then (match mF_depth l2 μ with | none => none | some (v3, m4) => mF_node_109  l1 l2 l3 l4 l5 l6 s0 v3 m4) else (mF_node_109  l1 l2 l3 l4 l5 l6 s0 (0 : Int32) μ)
theorem mT_node_93 {S : zS} {q : Nat} {w w0 : zW} {Post : Option Value → zW → Prop} {m0 : Nat} {μ μ2 : mS} {v : Int32} {l1 : Int32} {l2 : Int32} {l3 : Int32} {l4 : Int32} {l5 : Int32} {l6 : Int32} {s0 : Int32} (hq : 3 ≤ q) (hk : mF_node_93 l1 l2 l3 l4 l5 l6 s0 μ = some (v, μ2)) (h : mW m0 w0 μ w) (k : ∀ w2, mW m0 w0 μ2 w2 → Post (some (.int v)) w2) : zOk S (q + 1) 72 93 [(0, .ref m0), (1, .int l1), (2, .int l2), (3, .int l3), (4, .int l4), (5, .int l5), (6, .int l6)] [.int s0] w Post := by
  unfold mF_node_93 at hk
  refine zi_l rfl rfl rfl ?_
  refine zi_l rfl rfl rfl ?_
  refine zi_ifd rfl rfl rfl (tgt := 104) (by decide) (fun c1 => ?_) (fun c1 => ?_)
  · rw [if_pos c1] at hk
    refine zi_l rfl rfl rfl ?_
    refine zi_l rfl rfl rfl ?_
    cases c2 : mF_depth l2 μ with
    | none => rw [c2] at hk; cases hk
    | some q1 =>
      obtain ⟨v3, m4⟩ := q1
      rw [c2] at hk
      dsimp only at hk
      refine zm_c h rfl rfl rfl rfl rfl rfl ((mT_depth (q := 0) (Nat.le_refl _) c2 h (fun w h => ?_)).deep (by omega))
      exact mT_node_109 hq hk h k
  · rw [if_neg c1] at hk
    refine zi_a (st' := .int 0 :: _) rfl rfl rfl ?_
    refine zi_go rfl rfl rfl (tgt := 109) (by decide) ?_
    exact mT_node_109 hq hk h k
def mF_node_88 (l1 : Int32) (l2 : Int32) (l3 : Int32) (l4 : Int32) (l5 : Int32) (l6 : Int32) (μ : mS) : Option (Int32 × mS) :=
  mF_node_93  l1 l2 l3 l4 l5 l6 (1 : Int32) μ
theorem mT_node_88 {S : zS} {q : Nat} {w w0 : zW} {Post : Option Value → zW → Prop} {m0 : Nat} {μ μ2 : mS} {v : Int32} {l1 : Int32} {l2 : Int32} {l3 : Int32} {l4 : Int32} {l5 : Int32} {l6 : Int32} (hq : 3 ≤ q) (hk : mF_node_88 l1 l2 l3 l4 l5 l6 μ = some (v, μ2)) (h : mW m0 w0 μ w) (k : ∀ w2, mW m0 w0 μ2 w2 → Post (some (.int v)) w2) : zOk S (q + 1) 72 88 [(0, .ref m0), (1, .int l1), (2, .int l2), (3, .int l3), (4, .int l4), (5, .int l5), (6, .int l6)] [] w Post := by
  unfold mF_node_88 at hk
  refine zi_a (st' := .int 1 :: _) rfl rfl rfl ?_
  refine zi_go rfl rfl rfl (tgt := 93) (by decide) ?_
  exact mT_node_93 hq hk h k
def mF_node_68 (l1 : Int32) (l2 : Int32) (l3 : Int32) (l4 : Int32) (l5 : Int32) (s0 : Int32) (μ : mS) : Option (Int32 × mS) :=
  if l1 = (16 : Int32) then (mF_node_88  l1 l2 l3 l4 l5 s0 μ) else (if l1 = (18 : Int32) then (mF_node_88  l1 l2 l3 l4 l5 s0 μ) else (if ¬ l1 = (19 : Int32) then (mF_node_93  l1 l2 l3 l4 l5 s0 (0 : Int32) μ) else (mF_node_88  l1 l2 l3 l4 l5 s0 μ)))
theorem mT_node_68 {S : zS} {q : Nat} {w w0 : zW} {Post : Option Value → zW → Prop} {m0 : Nat} {μ μ2 : mS} {v : Int32} {l1 : Int32} {l2 : Int32} {l3 : Int32} {l4 : Int32} {l5 : Int32} {s0 : Int32} (hq : 3 ≤ q) (hk : mF_node_68 l1 l2 l3 l4 l5 s0 μ = some (v, μ2)) (h : mW m0 w0 μ w) (k : ∀ w2, mW m0 w0 μ2 w2 → Post (some (.int v)) w2) : zOk S (q + 1) 72 68 [(0, .ref m0), (1, .int l1), (2, .int l2), (3, .int l3), (4, .int l4), (5, .int l5)] [.int s0] w Post := by
  unfold mF_node_68 at hk
  refine zi_l rfl rfl rfl ?_
  refine zi_l rfl rfl rfl ?_
  refine zi_a (st' := .int 16 :: _) rfl rfl rfl ?_
  refine zi_ifd rfl rfl rfl (tgt := 88) (by decide) (fun c1 => ?_) (fun c1 => ?_)
  · rw [if_pos c1] at hk
    exact mT_node_88 hq hk h k
  · rw [if_neg c1] at hk
    refine zi_l rfl rfl rfl ?_
    refine zi_a (st' := .int 18 :: _) rfl rfl rfl ?_
    refine zi_ifd rfl rfl rfl (tgt := 88) (by decide) (fun c2 => ?_) (fun c2 => ?_)
    · rw [if_pos c2] at hk
      exact mT_node_88 hq hk h k
    · rw [if_neg c2] at hk
      refine zi_l rfl rfl rfl ?_
      refine zi_a (st' := .int 19 :: _) rfl rfl rfl ?_
      refine zi_ifd rfl rfl rfl (tgt := 92) (by decide) (fun c3 => ?_) (fun c3 => ?_)
      · rw [if_pos c3] at hk
        refine zi_a (st' := .int 0 :: _) rfl rfl rfl ?_
        exact mT_node_93 hq hk h k
      · rw [if_neg c3] at hk
        exact mT_node_88 hq hk h k
def mF_node_67 (l1 : Int32) (l2 : Int32) (l3 : Int32) (l4 : Int32) (l5 : Int32) (μ : mS) : Option (Int32 × mS) :=
  mF_node_68  l1 l2 l3 l4 l5 (0 : Int32) μ
theorem mT_node_67 {S : zS} {q : Nat} {w w0 : zW} {Post : Option Value → zW → Prop} {m0 : Nat} {μ μ2 : mS} {v : Int32} {l1 : Int32} {l2 : Int32} {l3 : Int32} {l4 : Int32} {l5 : Int32} (hq : 3 ≤ q) (hk : mF_node_67 l1 l2 l3 l4 l5 μ = some (v, μ2)) (h : mW m0 w0 μ w) (k : ∀ w2, mW m0 w0 μ2 w2 → Post (some (.int v)) w2) : zOk S (q + 1) 72 67 [(0, .ref m0), (1, .int l1), (2, .int l2), (3, .int l3), (4, .int l4), (5, .int l5)] [] w Post := by
  unfold mF_node_67 at hk
  refine zi_a (st' := .int 0 :: _) rfl rfl rfl ?_
  exact mT_node_68 hq hk h k
def mF_node_43 (l1 : Int32) (l2 : Int32) (l3 : Int32) (l4 : Int32) (s0 : Int32) (μ : mS) : Option (Int32 × mS) :=
  if l1 = (13 : Int32) then (mF_node_67  l1 l2 l3 l4 s0 μ) else (if l1 = (14 : Int32) then (mF_node_67  l1 l2 l3 l4 s0 μ) else (if l1 = (20 : Int32) then (mF_node_67  l1 l2 l3 l4 s0 μ) else (mF_node_68  l1 l2 l3 l4 s0 (1 : Int32) μ)))
theorem mT_node_43 {S : zS} {q : Nat} {w w0 : zW} {Post : Option Value → zW → Prop} {m0 : Nat} {μ μ2 : mS} {v : Int32} {l1 : Int32} {l2 : Int32} {l3 : Int32} {l4 : Int32} {s0 : Int32} (hq : 3 ≤ q) (hk : mF_node_43 l1 l2 l3 l4 s0 μ = some (v, μ2)) (h : mW m0 w0 μ w) (k : ∀ w2, mW m0 w0 μ2 w2 → Post (some (.int v)) w2) : zOk S (q + 1) 72 43 [(0, .ref m0), (1, .int l1), (2, .int l2), (3, .int l3), (4, .int l4)] [.int s0] w Post := by
  unfold mF_node_43 at hk
  refine zi_l rfl rfl rfl ?_
  refine zi_l rfl rfl rfl ?_
  refine zi_a (st' := .int 13 :: _) rfl rfl rfl ?_
  refine zi_ifd rfl rfl rfl (tgt := 67) (by decide) (fun c1 => ?_) (fun c1 => ?_)
  · rw [if_pos c1] at hk
    exact mT_node_67 hq hk h k
  · rw [if_neg c1] at hk
    refine zi_l rfl rfl rfl ?_
    refine zi_a (st' := .int 14 :: _) rfl rfl rfl ?_
    refine zi_ifd rfl rfl rfl (tgt := 67) (by decide) (fun c2 => ?_) (fun c2 => ?_)
    · rw [if_pos c2] at hk
      exact mT_node_67 hq hk h k
    · rw [if_neg c2] at hk
      refine zi_l rfl rfl rfl ?_
      refine zi_a (st' := .int 20 :: _) rfl rfl rfl ?_
      refine zi_ifd rfl rfl rfl (tgt := 67) (by decide) (fun c3 => ?_) (fun c3 => ?_)
      · rw [if_pos c3] at hk
        exact mT_node_67 hq hk h k
      · rw [if_neg c3] at hk
        refine zi_a (st' := .int 1 :: _) rfl rfl rfl ?_
        refine zi_go rfl rfl rfl (tgt := 68) (by decide) ?_
        exact mT_node_68 hq hk h k
def mF_node_38 (l1 : Int32) (l2 : Int32) (l3 : Int32) (l4 : Int32) (μ : mS) : Option (Int32 × mS) :=
  mF_node_43  l1 l2 l3 l4 (1 : Int32) μ
theorem mT_node_38 {S : zS} {q : Nat} {w w0 : zW} {Post : Option Value → zW → Prop} {m0 : Nat} {μ μ2 : mS} {v : Int32} {l1 : Int32} {l2 : Int32} {l3 : Int32} {l4 : Int32} (hq : 3 ≤ q) (hk : mF_node_38 l1 l2 l3 l4 μ = some (v, μ2)) (h : mW m0 w0 μ w) (k : ∀ w2, mW m0 w0 μ2 w2 → Post (some (.int v)) w2) : zOk S (q + 1) 72 38 [(0, .ref m0), (1, .int l1), (2, .int l2), (3, .int l3), (4, .int l4)] [] w Post := by
  unfold mF_node_38 at hk
  refine zi_a (st' := .int 1 :: _) rfl rfl rfl ?_
  refine zi_go rfl rfl rfl (tgt := 43) (by decide) ?_
  exact mT_node_43 hq hk h k
def mF_node (a1 : Int32) (a2 : Int32) (a3 : Int32) (a4 : Int32) (μ : mS) : Option (Int32 × mS) :=
  match mF_areParts a1 a2 a3 a4 μ with | none => none | some (v2, m3) => if ¬ v2 = 0 then (if a1 = (11 : Int32) then (mF_node_38  a1 a2 a3 a4 m3) else (if a1 = (12 : Int32) then (mF_node_38  a1 a2 a3 a4 m3) else (if a1 = (19 : Int32) then (mF_node_38  a1 a2 a3 a4 m3) else (if ¬ a1 = (20 : Int32) then (mF_node_43  a1 a2 a3 a4 (0 : Int32) m3) else (mF_node_38  a1 a2 a3 a4 m3))))) else (some ((-1 : Int32), m3))
theorem mT_node {S : zS} {q : Nat} {w w0 : zW} {Post : Option Value → zW → Prop} {m0 : Nat} {μ μ2 : mS} {v : Int32} {a1 : Int32} {a2 : Int32} {a3 : Int32} {a4 : Int32} (hq : 3 ≤ q) (hk : mF_node a1 a2 a3 a4 μ = some (v, μ2)) (h : mW m0 w0 μ w) (k : ∀ w2, mW m0 w0 μ2 w2 → Post (some (.int v)) w2) : zOk S (q + 1) 72 0 (lv_args 0 [.ref m0, .int a1, .int a2, .int a3, .int a4]) [] w Post := by
  unfold mF_node at hk
  refine zi_l rfl rfl rfl ?_
  refine zi_l rfl rfl rfl ?_
  refine zi_l rfl rfl rfl ?_
  refine zi_l rfl rfl rfl ?_
  refine zi_l rfl rfl rfl ?_
  cases c1 : mF_areParts a1 a2 a3 a4 μ with
  | none => rw [c1] at hk; cases hk
  | some q1 =>
    obtain ⟨v2, m3⟩ := q1
    rw [c1] at hk
    dsimp only at hk
    refine zm_c h rfl rfl rfl rfl rfl rfl ((mT_areParts (q := 2) (Nat.le_refl _) c1 h (fun w h => ?_)).deep (by omega))
    refine zi_ifd rfl rfl rfl (tgt := 14) (by decide) (fun c4 => ?_) (fun c4 => ?_)
    · rw [if_pos c4] at hk
      refine zi_l rfl rfl rfl ?_
      refine zi_a (st' := .int 11 :: _) rfl rfl rfl ?_
      refine zi_ifd rfl rfl rfl (tgt := 38) (by decide) (fun c5 => ?_) (fun c5 => ?_)
      · rw [if_pos c5] at hk
        exact mT_node_38 hq hk h k
      · rw [if_neg c5] at hk
        refine zi_l rfl rfl rfl ?_
        refine zi_a (st' := .int 12 :: _) rfl rfl rfl ?_
        refine zi_ifd rfl rfl rfl (tgt := 38) (by decide) (fun c6 => ?_) (fun c6 => ?_)
        · rw [if_pos c6] at hk
          exact mT_node_38 hq hk h k
        · rw [if_neg c6] at hk
          refine zi_l rfl rfl rfl ?_
          refine zi_a (st' := .int 19 :: _) rfl rfl rfl ?_
          refine zi_ifd rfl rfl rfl (tgt := 38) (by decide) (fun c7 => ?_) (fun c7 => ?_)
          · rw [if_pos c7] at hk
            exact mT_node_38 hq hk h k
          · rw [if_neg c7] at hk
            refine zi_l rfl rfl rfl ?_
            refine zi_a (st' := .int 20 :: _) rfl rfl rfl ?_
            refine zi_ifd rfl rfl rfl (tgt := 42) (by decide) (fun c8 => ?_) (fun c8 => ?_)
            · rw [if_pos c8] at hk
              refine zi_a (st' := .int 0 :: _) rfl rfl rfl ?_
              exact mT_node_43 hq hk h k
            · rw [if_neg c8] at hk
              exact mT_node_38 hq hk h k
    · rw [if_neg c4] at hk
      refine zi_a (st' := .int (-1) :: _) rfl rfl rfl ?_
      cases hk
      exact zi_ri rfl rfl (k w h)
def mF_counted_152 (k_2 : Int32 → Int32 → mS → Option (Int32 × mS)) (l1 : Int32) (l2 : Int32) (l3 : Int32) (l4 : Int32) (s1 : Int32) (s2 : Int32) (μ : mS) : Option (Int32 × mS) :=
  if zix s1 200 then mPut (mu1 μ 37 (s1).toNatClampNeg s2) fun m2 => k_2 l1 (l2 + Int32.ofInt 1) m2 else none
theorem mT_counted_152 {S : zS} {q : Nat} {w w0 : zW} {Post : Option Value → zW → Prop} {m0 : Nat} {μ μ2 : mS} {v : Int32} {k_2 : Int32 → Int32 → mS → Option (Int32 × mS)} {l1 : Int32} {l2 : Int32} {l3 : Int32} {l4 : Int32} {s1 : Int32} {s2 : Int32} (hq : 0 ≤ q) (H_2 : ∀ (l1 : Int32) (l2 : Int32) (ν : mS) (w : zW), k_2 l1 l2 ν = some (v, μ2) → mW m0 w0 ν w → zOk S (q + 1) 81 2 [(0, .ref m0), (1, .int l1), (2, .int l2)] [] w Post) (hk : mF_counted_152 k_2 l1 l2 l3 l4 s1 s2 μ = some (v, μ2)) (h : mW m0 w0 μ w) (k : ∀ w2, mW m0 w0 μ2 w2 → Post (some (.int v)) w2) : zOk S (q + 1) 81 152 [(0, .ref m0), (1, .int l1), (2, .int l2), (3, .int l3), (4, .int l4)] [.int s2, .int s1, .ref (m0 + mA 37)] w Post := by
  unfold mF_counted_152 at hk
  by_cases q1 : zix s1 200
  case neg => rw [if_neg q1] at hk; cases hk
  rw [if_pos q1] at hk
  refine zm_st (f := 37) h rfl (by decide) rfl q1 (fun w h => ?_)
  generalize mu1 μ 37 (s1).toNatClampNeg s2 = m2 at h hk
  rw [mPut_eq] at hk
  refine zi_l rfl rfl rfl ?_
  refine zi_go rfl rfl rfl (tgt := 2) (by decide) ?_
  refine zk_sub [0, 1, 2] rfl rfl ?_
  exact H_2 _ _ _ _ hk h
def mF_counted_131 (k_2 : Int32 → Int32 → mS → Option (Int32 × mS)) (l1 : Int32) (l2 : Int32) (l3 : Int32) (l4 : Int32) (μ : mS) : Option (Int32 × mS) :=
  if l4 ≤ (500 : Int32) then (mF_counted_152 k_2 l1 l2 l3 l4 l2 l4 μ) else (mF_counted_152 k_2 l1 l2 l3 l4 l2 (501 : Int32) μ)
theorem mT_counted_131 {S : zS} {q : Nat} {w w0 : zW} {Post : Option Value → zW → Prop} {m0 : Nat} {μ μ2 : mS} {v : Int32} {k_2 : Int32 → Int32 → mS → Option (Int32 × mS)} {l1 : Int32} {l2 : Int32} {l3 : Int32} {l4 : Int32} (hq : 0 ≤ q) (H_2 : ∀ (l1 : Int32) (l2 : Int32) (ν : mS) (w : zW), k_2 l1 l2 ν = some (v, μ2) → mW m0 w0 ν w → zOk S (q + 1) 81 2 [(0, .ref m0), (1, .int l1), (2, .int l2)] [] w Post) (hk : mF_counted_131 k_2 l1 l2 l3 l4 μ = some (v, μ2)) (h : mW m0 w0 μ w) (k : ∀ w2, mW m0 w0 μ2 w2 → Post (some (.int v)) w2) : zOk S (q + 1) 81 131 [(0, .ref m0), (1, .int l1), (2, .int l2), (3, .int l3), (4, .int l4)] [] w Post := by
  unfold mF_counted_131 at hk
  refine zi_l rfl rfl rfl ?_
  refine zm_ga (f := 37) h rfl rfl (by decide) ?_
  refine zi_l rfl rfl rfl ?_
  refine zi_l rfl rfl rfl ?_
  refine zi_a (st' := .int 500 :: _) rfl rfl rfl ?_
  refine zi_ifd rfl rfl rfl (tgt := 150) (by decide) (fun c1 => ?_) (fun c1 => ?_)
  · rw [if_pos c1] at hk
    refine zi_l rfl rfl rfl ?_
    exact mT_counted_152 hq H_2 hk h k
  · rw [if_neg c1] at hk
    refine zi_a (st' := .int 501 :: _) rfl rfl rfl ?_
    refine zi_go rfl rfl rfl (tgt := 152) (by decide) ?_
    exact mT_counted_152 hq H_2 hk h k
def mF_counted_35 (k_2 : Int32 → Int32 → mS → Option (Int32 × mS)) (l1 : Int32) (l2 : Int32) (l3 : Int32) (l4 : Int32) (μ : mS) : Option (Int32 × mS) :=
  if zix l2 200 then if zix (μ.1 2 (l2).toNatClampNeg) 200 then if zix l2 200 then if zix (μ.1 3 (l2).toNatClampNeg) 200 then mF_counted_131 k_2 l1 l2 l3 (l4 + ((μ.1 37 ((μ.1 2 (l2).toNatClampNeg)).toNatClampNeg) + (μ.1 37 ((μ.1 3 (l2).toNatClampNeg)).toNatClampNeg))) μ else none else none else none else none
theorem mT_counted_35 {S : zS} {q : Nat} {w w0 : zW} {Post : Option Value → zW → Prop} {m0 : Nat} {μ μ2 : mS} {v : Int32} {k_2 : Int32 → Int32 → mS → Option (Int32 × mS)} {l1 : Int32} {l2 : Int32} {l3 : Int32} {l4 : Int32} (hq : 0 ≤ q) (H_2 : ∀ (l1 : Int32) (l2 : Int32) (ν : mS) (w : zW), k_2 l1 l2 ν = some (v, μ2) → mW m0 w0 ν w → zOk S (q + 1) 81 2 [(0, .ref m0), (1, .int l1), (2, .int l2)] [] w Post) (hk : mF_counted_35 k_2 l1 l2 l3 l4 μ = some (v, μ2)) (h : mW m0 w0 μ w) (k : ∀ w2, mW m0 w0 μ2 w2 → Post (some (.int v)) w2) : zOk S (q + 1) 81 35 [(0, .ref m0), (1, .int l1), (2, .int l2), (3, .int l3), (4, .int l4)] [] w Post := by
  unfold mF_counted_35 at hk
  refine zi_l rfl rfl rfl ?_
  refine zi_l rfl rfl rfl ?_
  refine zm_ga (f := 37) h rfl rfl (by decide) ?_
  refine zi_l rfl rfl rfl ?_
  refine zm_ga (f := 2) h rfl rfl (by decide) ?_
  refine zi_l rfl rfl rfl ?_
  by_cases q1 : zix l2 200
  case neg => rw [if_neg q1] at hk; cases hk
  rw [if_pos q1] at hk
  refine zm_ld (f := 2) h rfl (by decide) rfl q1 ?_
  by_cases q2 : zix (μ.1 2 (l2).toNatClampNeg) 200
  case neg => rw [if_neg q2] at hk; cases hk
  rw [if_pos q2] at hk
  refine zm_ld (f := 37) h rfl (by decide) rfl q2 ?_
  refine zi_l rfl rfl rfl ?_
  refine zm_ga (f := 37) h rfl rfl (by decide) ?_
  refine zi_l rfl rfl rfl ?_
  refine zm_ga (f := 3) h rfl rfl (by decide) ?_
  refine zi_l rfl rfl rfl ?_
  by_cases q3 : zix l2 200
  case neg => rw [if_neg q3] at hk; cases hk
  rw [if_pos q3] at hk
  refine zm_ld (f := 3) h rfl (by decide) rfl q3 ?_
  by_cases q4 : zix (μ.1 3 (l2).toNatClampNeg) 200
  case neg => rw [if_neg q4] at hk; cases hk
  rw [if_pos q4] at hk
  refine zm_ld (f := 37) h rfl (by decide) rfl q4 ?_
  refine zi_a rfl rfl rfl ?_
  refine zi_a rfl rfl rfl ?_
  refine zi_l rfl rfl rfl ?_
  refine zi_go rfl rfl rfl (tgt := 131) (by decide) ?_
  exact mT_counted_131 hq H_2 hk h k
def mF_counted_127 (k_2 : Int32 → Int32 → mS → Option (Int32 × mS)) (l1 : Int32) (l2 : Int32) (l3 : Int32) (l4 : Int32) (s0 : Int32) (s1 : Int32) (s2 : Int32) (μ : mS) : Option (Int32 × mS) :=
  mF_counted_131 k_2 l1 l2 l3 (s0 + (s1 + s2)) μ
theorem mT_counted_127 {S : zS} {q : Nat} {w w0 : zW} {Post : Option Value → zW → Prop} {m0 : Nat} {μ μ2 : mS} {v : Int32} {k_2 : Int32 → Int32 → mS → Option (Int32 × mS)} {l1 : Int32} {l2 : Int32} {l3 : Int32} {l4 : Int32} {s0 : Int32} {s1 : Int32} {s2 : Int32} (hq : 0 ≤ q) (H_2 : ∀ (l1 : Int32) (l2 : Int32) (ν : mS) (w : zW), k_2 l1 l2 ν = some (v, μ2) → mW m0 w0 ν w → zOk S (q + 1) 81 2 [(0, .ref m0), (1, .int l1), (2, .int l2)] [] w Post) (hk : mF_counted_127 k_2 l1 l2 l3 l4 s0 s1 s2 μ = some (v, μ2)) (h : mW m0 w0 μ w) (k : ∀ w2, mW m0 w0 μ2 w2 → Post (some (.int v)) w2) : zOk S (q + 1) 81 127 [(0, .ref m0), (1, .int l1), (2, .int l2), (3, .int l3), (4, .int l4)] [.int s2, .int s1, .int s0] w Post := by
  unfold mF_counted_127 at hk
  refine zi_a rfl rfl rfl ?_
  refine zi_a rfl rfl rfl ?_
  refine zi_l rfl rfl rfl ?_
  exact mT_counted_131 hq H_2 hk h k
def mF_counted_126 (k_2 : Int32 → Int32 → mS → Option (Int32 × mS)) (l1 : Int32) (l2 : Int32) (l3 : Int32) (l4 : Int32) (s0 : Int32) (s1 : Int32) (μ : mS) : Option (Int32 × mS) :=
  mF_counted_127 k_2 l1 l2 l3 l4 s0 s1 (0 : Int32) μ
theorem mT_counted_126 {S : zS} {q : Nat} {w w0 : zW} {Post : Option Value → zW → Prop} {m0 : Nat} {μ μ2 : mS} {v : Int32} {k_2 : Int32 → Int32 → mS → Option (Int32 × mS)} {l1 : Int32} {l2 : Int32} {l3 : Int32} {l4 : Int32} {s0 : Int32} {s1 : Int32} (hq : 0 ≤ q) (H_2 : ∀ (l1 : Int32) (l2 : Int32) (ν : mS) (w : zW), k_2 l1 l2 ν = some (v, μ2) → mW m0 w0 ν w → zOk S (q + 1) 81 2 [(0, .ref m0), (1, .int l1), (2, .int l2)] [] w Post) (hk : mF_counted_126 k_2 l1 l2 l3 l4 s0 s1 μ = some (v, μ2)) (h : mW m0 w0 μ w) (k : ∀ w2, mW m0 w0 μ2 w2 → Post (some (.int v)) w2) : zOk S (q + 1) 81 126 [(0, .ref m0), (1, .int l1), (2, .int l2), (3, .int l3), (4, .int l4)] [.int s1, .int s0] w Post := by
  unfold mF_counted_126 at hk
  refine zi_a (st' := .int 0 :: _) rfl rfl rfl ?_
  exact mT_counted_127 hq H_2 hk h k
def mF_counted_84 (k_2 : Int32 → Int32 → mS → Option (Int32 × mS)) (l1 : Int32) (l2 : Int32) (l3 : Int32) (l4 : Int32) (μ : mS) : Option (Int32 × mS) :=
  if zix l2 200 then if zix (μ.1 3 (l2).toNatClampNeg) 200 then if l3 = (17 : Int32) then (mF_counted_126 k_2 l1 l2 l3 l4 l4 (μ.1 37 ((μ.1 3 (l2).toNatClampNeg)).toNatClampNeg) μ) else (if zix l2 200 then if (μ.1 4 (l2).toNatClampNeg) < 0 then (mF_counted_126 k_2 l1 l2 l3 l4 l4 (μ.1 37 ((μ.1 3 (l2).toNatClampNeg)).toNatClampNeg) μ) else (if zix l2 200 then if zix (μ.1 4 (l2).toNatClampNeg) 200 then mF_counted_127 k_2 l1 l2 l3 l4 l4 (μ.1 37 ((μ.1 3 (l2).toNatClampNeg)).toNatClampNeg) (μ.1 37 ((μ.1 4 (l2).toNatClampNeg)).toNatClampNeg) μ else none else none) else none) else none else none
theorem mT_counted_84 {S : zS} {q : Nat} {w w0 : zW} {Post : Option Value → zW → Prop} {m0 : Nat} {μ μ2 : mS} {v : Int32} {k_2 : Int32 → Int32 → mS → Option (Int32 × mS)} {l1 : Int32} {l2 : Int32} {l3 : Int32} {l4 : Int32} (hq : 0 ≤ q) (H_2 : ∀ (l1 : Int32) (l2 : Int32) (ν : mS) (w : zW), k_2 l1 l2 ν = some (v, μ2) → mW m0 w0 ν w → zOk S (q + 1) 81 2 [(0, .ref m0), (1, .int l1), (2, .int l2)] [] w Post) (hk : mF_counted_84 k_2 l1 l2 l3 l4 μ = some (v, μ2)) (h : mW m0 w0 μ w) (k : ∀ w2, mW m0 w0 μ2 w2 → Post (some (.int v)) w2) : zOk S (q + 1) 81 84 [(0, .ref m0), (1, .int l1), (2, .int l2), (3, .int l3), (4, .int l4)] [] w Post := by
  unfold mF_counted_84 at hk
  refine zi_l rfl rfl rfl ?_
  refine zi_l rfl rfl rfl ?_
  refine zm_ga (f := 37) h rfl rfl (by decide) ?_
  refine zi_l rfl rfl rfl ?_
  refine zm_ga (f := 3) h rfl rfl (by decide) ?_
  refine zi_l rfl rfl rfl ?_
  by_cases q1 : zix l2 200
  case neg => rw [if_neg q1] at hk; cases hk
  rw [if_pos q1] at hk
  refine zm_ld (f := 3) h rfl (by decide) rfl q1 ?_
  by_cases q2 : zix (μ.1 3 (l2).toNatClampNeg) 200
  case neg => rw [if_neg q2] at hk; cases hk
  rw [if_pos q2] at hk
  refine zm_ld (f := 37) h rfl (by decide) rfl q2 ?_
  refine zi_l rfl rfl rfl ?_
  refine zi_a (st' := .int 17 :: _) rfl rfl rfl ?_
  refine zi_ifd rfl rfl rfl (tgt := 126) (by decide) (fun c3 => ?_) (fun c3 => ?_)
  · rw [if_pos c3] at hk
    exact mT_counted_126 hq H_2 hk h k
  · rw [if_neg c3] at hk
    refine zi_l rfl rfl rfl ?_
    refine zm_ga (f := 4) h rfl rfl (by decide) ?_
    refine zi_l rfl rfl rfl ?_
    by_cases q4 : zix l2 200
    case neg => rw [if_neg q4] at hk; cases hk
    rw [if_pos q4] at hk
    refine zm_ld (f := 4) h rfl (by decide) rfl q4 ?_
    refine zi_ifd rfl rfl rfl (tgt := 126) (by decide) (fun c5 => ?_) (fun c5 => ?_)
    · rw [if_pos c5] at hk
      exact mT_counted_126 hq H_2 hk h k
    · rw [if_neg c5] at hk
      refine zi_l rfl rfl rfl ?_
      refine zm_ga (f := 37) h rfl rfl (by decide) ?_
      refine zi_l rfl rfl rfl ?_
      refine zm_ga (f := 4) h rfl rfl (by decide) ?_
      refine zi_l rfl rfl rfl ?_
      by_cases q6 : zix l2 200
      case neg => rw [if_neg q6] at hk; cases hk
      rw [if_pos q6] at hk
      refine zm_ld (f := 4) h rfl (by decide) rfl q6 ?_
      by_cases q7 : zix (μ.1 4 (l2).toNatClampNeg) 200
      case neg => rw [if_neg q7] at hk; cases hk
      rw [if_pos q7] at hk
      refine zm_ld (f := 37) h rfl (by decide) rfl q7 ?_
      refine zi_go rfl rfl rfl (tgt := 127) (by decide) ?_
      exact mT_counted_127 hq H_2 hk h k
def mF_counted_2b (k_2 : Int32 → Int32 → mS → Option (Int32 × mS)) (l1 : Int32) (l2 : Int32) (μ : mS) : Option (Int32 × mS) :=
  if l1 < l2 then (if zix l1 200 then some ((μ.1 37 (l1).toNatClampNeg), μ) else none) else (if zix l2 200 then if (μ.1 1 (l2).toNatClampNeg) = (10 : Int32) then (mF_counted_35 k_2 l1 l2 (μ.1 1 (l2).toNatClampNeg) (1 : Int32) μ) else (if (μ.1 1 (l2).toNatClampNeg) = (15 : Int32) then (mF_counted_35 k_2 l1 l2 (μ.1 1 (l2).toNatClampNeg) (1 : Int32) μ) else (if ¬ (μ.1 1 (l2).toNatClampNeg) = (21 : Int32) then (if (μ.1 1 (l2).toNatClampNeg) = (16 : Int32) then (mF_counted_84 k_2 l1 l2 (μ.1 1 (l2).toNatClampNeg) (1 : Int32) μ) else (if (μ.1 1 (l2).toNatClampNeg) = (17 : Int32) then (mF_counted_84 k_2 l1 l2 (μ.1 1 (l2).toNatClampNeg) (1 : Int32) μ) else (if ¬ (μ.1 1 (l2).toNatClampNeg) = (18 : Int32) then (mF_counted_131 k_2 l1 l2 (μ.1 1 (l2).toNatClampNeg) (1 : Int32) μ) else (mF_counted_84 k_2 l1 l2 (μ.1 1 (l2).toNatClampNeg) (1 : Int32) μ)))) else (mF_counted_35 k_2 l1 l2 (μ.1 1 (l2).toNatClampNeg) (1 : Int32) μ))) else none)
theorem mT_counted_2b {S : zS} {q : Nat} {w w0 : zW} {Post : Option Value → zW → Prop} {m0 : Nat} {μ μ2 : mS} {v : Int32} {k_2 : Int32 → Int32 → mS → Option (Int32 × mS)} {l1 : Int32} {l2 : Int32} (hq : 0 ≤ q) (H_2 : ∀ (l1 : Int32) (l2 : Int32) (ν : mS) (w : zW), k_2 l1 l2 ν = some (v, μ2) → mW m0 w0 ν w → zOk S (q + 1) 81 2 [(0, .ref m0), (1, .int l1), (2, .int l2)] [] w Post) (hk : mF_counted_2b k_2 l1 l2 μ = some (v, μ2)) (h : mW m0 w0 μ w) (k : ∀ w2, mW m0 w0 μ2 w2 → Post (some (.int v)) w2) : zOk S (q + 1) 81 2 [(0, .ref m0), (1, .int l1), (2, .int l2)] [] w Post := by
  unfold mF_counted_2b at hk
  refine zi_l rfl rfl rfl ?_
  refine zi_l rfl rfl rfl ?_
  refine zi_ifd rfl rfl rfl (tgt := 159) (by decide) (fun c1 => ?_) (fun c1 => ?_)
  · rw [if_pos c1] at hk
    refine zi_l rfl rfl rfl ?_
    refine zm_ga (f := 37) h rfl rfl (by decide) ?_
    refine zi_l rfl rfl rfl ?_
    by_cases q2 : zix l1 200
    case neg => rw [if_neg q2] at hk; cases hk
    rw [if_pos q2] at hk
    refine zm_ld (f := 37) h rfl (by decide) rfl q2 ?_
    cases hk
    exact zi_ri rfl rfl (k w h)
  · rw [if_neg c1] at hk
    refine zi_l rfl rfl rfl ?_
    refine zm_ga (f := 1) h rfl rfl (by decide) ?_
    refine zi_l rfl rfl rfl ?_
    by_cases q3 : zix l2 200
    case neg => rw [if_neg q3] at hk; cases hk
    rw [if_pos q3] at hk
    refine zm_ld (f := 1) h rfl (by decide) rfl q3 ?_
    refine zi_l rfl rfl rfl ?_
    refine zi_a (st' := .int 1 :: _) rfl rfl rfl ?_
    refine zi_l rfl rfl rfl ?_
    refine zi_l rfl rfl rfl ?_
    refine zi_a (st' := .int 10 :: _) rfl rfl rfl ?_
    refine zi_ifd rfl rfl rfl (tgt := 35) (by decide) (fun c4 => ?_) (fun c4 => ?_)
    · rw [if_pos c4] at hk
      exact mT_counted_35 hq H_2 hk h k
    · rw [if_neg c4] at hk
      refine zi_l rfl rfl rfl ?_
      refine zi_a (st' := .int 15 :: _) rfl rfl rfl ?_
      refine zi_ifd rfl rfl rfl (tgt := 35) (by decide) (fun c5 => ?_) (fun c5 => ?_)
      · rw [if_pos c5] at hk
        exact mT_counted_35 hq H_2 hk h k
      · rw [if_neg c5] at hk
        refine zi_l rfl rfl rfl ?_
        refine zi_a (st' := .int 21 :: _) rfl rfl rfl ?_
        refine zi_ifd rfl rfl rfl (tgt := 66) (by decide) (fun c6 => ?_) (fun c6 => ?_)
        · rw [if_pos c6] at hk
          refine zi_l rfl rfl rfl ?_
          refine zi_a (st' := .int 16 :: _) rfl rfl rfl ?_
          refine zi_ifd rfl rfl rfl (tgt := 84) (by decide) (fun c7 => ?_) (fun c7 => ?_)
          · rw [if_pos c7] at hk
            exact mT_counted_84 hq H_2 hk h k
          · rw [if_neg c7] at hk
            refine zi_l rfl rfl rfl ?_
            refine zi_a (st' := .int 17 :: _) rfl rfl rfl ?_
            refine zi_ifd rfl rfl rfl (tgt := 84) (by decide) (fun c8 => ?_) (fun c8 => ?_)
            · rw [if_pos c8] at hk
              exact mT_counted_84 hq H_2 hk h k
            · rw [if_neg c8] at hk
              refine zi_l rfl rfl rfl ?_
              refine zi_a (st' := .int 18 :: _) rfl rfl rfl ?_
              refine zi_ifd rfl rfl rfl (tgt := 131) (by decide) (fun c9 => ?_) (fun c9 => ?_)
              · rw [if_pos c9] at hk
                exact mT_counted_131 hq H_2 hk h k
              · rw [if_neg c9] at hk
                exact mT_counted_84 hq H_2 hk h k
        · rw [if_neg c6] at hk
          exact mT_counted_35 hq H_2 hk h k
def mF_counted_2 : Nat → Int32 → Int32 → mS → Option (Int32 × mS)
  | 0 => fun _ _ _ => none
  | n + 1 => fun l1 l2 μ => mF_counted_2b (mF_counted_2 n) l1 l2 μ
theorem mT_counted_2 {S : zS} {q : Nat} {w0 : zW} {Post : Option Value → zW → Prop} {m0 : Nat} {μ2 : mS} {v : Int32} (hq : 0 ≤ q) (k : ∀ w2, mW m0 w0 μ2 w2 → Post (some (.int v)) w2) : ∀ (n : Nat) (l1 : Int32) (l2 : Int32) (μ : mS) (w : zW), mF_counted_2 n l1 l2 μ = some (v, μ2) → mW m0 w0 μ w → zOk S (q + 1) 81 2 [(0, .ref m0), (1, .int l1), (2, .int l2)] [] w Post := by
  intro n
  induction n with
  | zero => intro l1 l2 μ w hk; cases hk
  | succ n ih => intro l1 l2 μ w hk h; exact mT_counted_2b hq ih hk h k
def mF_counted (a1 : Int32) (μ : mS) : Option (Int32 × mS) :=
  mF_counted_2  210 a1 (0 : Int32) μ
theorem mT_counted {S : zS} {q : Nat} {w w0 : zW} {Post : Option Value → zW → Prop} {m0 : Nat} {μ μ2 : mS} {v : Int32} {a1 : Int32} (hq : 0 ≤ q) (hk : mF_counted a1 μ = some (v, μ2)) (h : mW m0 w0 μ w) (k : ∀ w2, mW m0 w0 μ2 w2 → Post (some (.int v)) w2) : zOk S (q + 1) 81 0 (lv_args 0 [.ref m0, .int a1]) [] w Post := by
  unfold mF_counted at hk
  refine zi_a (st' := .int 0 :: _) rfl rfl rfl ?_
  refine zi_l rfl rfl rfl ?_
  exact mT_counted_2 hq k 210 _ _ _ _ hk h
