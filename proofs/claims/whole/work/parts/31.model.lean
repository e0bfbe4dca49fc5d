/-! the reference decompiled: functions over its state, and that its code runs them (by wip/whole/gen3.py) -/
theorem z_nb {x : Int32} (h : x = 0 ∨ x = 1) : narrow .boolean (.int x) = .int x := by rcases h with rfl | rfl <;> rfl
theorem z_fb {x : Int32} (h : x = 0 ∨ x = 1) : fits .boolean (.int x) = true := by rcases h with rfl | rfl <;> rfl
def mF_isPlace (a1 : Int32) (μ : mS) : Option (Int32 × mS) :=
  if a1 < 0 then (some ((0 : Int32), μ)) else (if (16 : Int32) ≤ a1 then (some ((0 : Int32), μ)) else (some ((1 : Int32), μ)))
theorem mT_isPlace {S : zS} {d : Nat} {w w0 : zW} {Post : Option Value → zW → Prop} {m0 : Nat} {μ μ2 : mS} {v : Int32} {a1 : Int32} (hk : mF_isPlace a1 μ = some (v, μ2)) (h : mW m0 w0 μ w) (k : ∀ w2, mW m0 w0 μ2 w2 → Post (some (.int v)) w2) : zOk S (d + 0) 76 0 (lv_args 0 [.int a1]) [] w Post := by
  unfold mF_isPlace at hk
  refine zi_l rfl rfl rfl ?_
  refine zi_ifd rfl rfl rfl (tgt := 14) (by decide) (fun c1 => ?_) (fun c1 => ?_)
  · rw [if_pos c1] at hk
    refine zi_a (st' := .int 0 :: _) rfl rfl rfl ?_
    cases hk
    exact zi_rz rfl rfl (Or.inl rfl) (k w h)
  · rw [if_neg c1] at hk
    refine zi_l rfl rfl rfl ?_
    refine zi_a (st' := .int 16 :: _) rfl rfl rfl ?_
    refine zi_ifd rfl rfl rfl (tgt := 14) (by decide) (fun c2 => ?_) (fun c2 => ?_)
    · rw [if_pos c2] at hk
      refine zi_a (st' := .int 0 :: _) rfl rfl rfl ?_
      cases hk
      exact zi_rz rfl rfl (Or.inl rfl) (k w h)
    · rw [if_neg c2] at hk
      refine zi_a (st' := .int 1 :: _) rfl rfl rfl ?_
      refine zi_go rfl rfl rfl (tgt := 15) (by decide) ?_
      cases hk
      exact zi_rz rfl rfl (Or.inr rfl) (k w h)

def mF_isNode (a1 : Int32) (μ : mS) : Option (Int32 × mS) :=
  if a1 < 0 then (some ((0 : Int32), μ)) else (if (μ.1 0 0) ≤ a1 then (some ((0 : Int32), μ)) else (some ((1 : Int32), μ)))
theorem mT_isNode {S : zS} {d : Nat} {w w0 : zW} {Post : Option Value → zW → Prop} {m0 : Nat} {μ μ2 : mS} {v : Int32} {a1 : Int32} (hk : mF_isNode a1 μ = some (v, μ2)) (h : mW m0 w0 μ w) (k : ∀ w2, mW m0 w0 μ2 w2 → Post (some (.int v)) w2) : zOk S (d + 0) 75 0 (lv_args 0 [.ref m0, .int a1]) [] w Post := by
  unfold mF_isNode at hk
  refine zi_l rfl rfl rfl ?_
  refine zi_ifd rfl rfl rfl (tgt := 16) (by decide) (fun c1 => ?_) (fun c1 => ?_)
  · rw [if_pos c1] at hk
    refine zi_a (st' := .int 0 :: _) rfl rfl rfl ?_
    cases hk
    exact zi_rz rfl rfl (Or.inl rfl) (k w h)
  · rw [if_neg c1] at hk
    refine zi_l rfl rfl rfl ?_
    refine zi_l rfl rfl rfl ?_
    refine zm_g h rfl rfl rfl rfl ?_
    refine zi_ifd rfl rfl rfl (tgt := 16) (by decide) (fun c2 => ?_) (fun c2 => ?_)
    · rw [if_pos c2] at hk
      refine zi_a (st' := .int 0 :: _) rfl rfl rfl ?_
      cases hk
      exact zi_rz rfl rfl (Or.inl rfl) (k w h)
    · rw [if_neg c2] at hk
      refine zi_a (st' := .int 1 :: _) rfl rfl rfl ?_
      refine zi_go rfl rfl rfl (tgt := 17) (by decide) ?_
      cases hk
      exact zi_rz rfl rfl (Or.inr rfl) (k w h)

def mF_isValue (a1 : Int32) (μ : mS) : Option (Int32 × mS) :=
  match mF_isNode a1 μ with | none => none | some (v2, μ3) => if v2 = 0 then (some ((0 : Int32), μ3)) else (if zix a1 200 then if (100 : Int32) ≤ (μ3.1 1 (a1).toNatClampNeg) then (some ((1 : Int32), μ3)) else (if zix a1 200 then if (5 : Int32) < (μ3.1 1 (a1).toNatClampNeg) then (some ((0 : Int32), μ3)) else (some ((1 : Int32), μ3)) else none) else none)
theorem mT_isValue {S : zS} {d : Nat} {w w0 : zW} {Post : Option Value → zW → Prop} {m0 : Nat} {μ μ2 : mS} {v : Int32} {a1 : Int32} (hk : mF_isValue a1 μ = some (v, μ2)) (h : mW m0 w0 μ w) (k : ∀ w2, mW m0 w0 μ2 w2 → Post (some (.int v)) w2) : zOk S (d + 1) 77 0 (lv_args 0 [.ref m0, .int a1]) [] w Post := by
  unfold mF_isValue at hk
  refine zi_l rfl rfl rfl ?_
  refine zi_l rfl rfl rfl ?_
  cases c1 : mF_isNode a1 μ with
  | none => rw [c1] at hk; cases hk
  | some q =>
    obtain ⟨v2, μ3⟩ := q
    rw [c1] at hk
    dsimp only at hk
    refine zm_c h rfl rfl rfl rfl rfl rfl (mT_isNode c1 h (fun w h => ?_))
    refine zi_ifd rfl rfl rfl (tgt := 33) (by decide) (fun c4 => ?_) (fun c4 => ?_)
    · rw [if_pos c4] at hk
      refine zi_a (st' := .int 0 :: _) rfl rfl rfl ?_
      cases hk
      exact zi_rz rfl rfl (Or.inl rfl) (k w h)
    · rw [if_neg c4] at hk
      refine zi_l rfl rfl rfl ?_
      refine zm_ga (f := 1) h rfl rfl (by decide) ?_
      refine zi_l rfl rfl rfl ?_
      by_cases q5 : zix a1 200
      case neg => rw [if_neg q5] at hk; cases hk
      rw [if_pos q5] at hk
      refine zm_ld (f := 1) h rfl (by decide) rfl q5 ?_
      refine zi_a (st' := .int 100 :: _) rfl rfl rfl ?_
      refine zi_ifd rfl rfl rfl (tgt := 29) (by decide) (fun c6 => ?_) (fun c6 => ?_)
      · rw [if_pos c6] at hk
        refine zi_a (st' := .int 1 :: _) rfl rfl rfl ?_
        refine zi_go rfl rfl rfl (tgt := 34) (by decide) ?_
        cases hk
        exact zi_rz rfl rfl (Or.inr rfl) (k w h)
      · rw [if_neg c6] at hk
        refine zi_l rfl rfl rfl ?_
        refine zm_ga (f := 1) h rfl rfl (by decide) ?_
        refine zi_l rfl rfl rfl ?_
        by_cases q7 : zix a1 200
        case neg => rw [if_neg q7] at hk; cases hk
        rw [if_pos q7] at hk
        refine zm_ld (f := 1) h rfl (by decide) rfl q7 ?_
        refine zi_a (st' := .int 5 :: _) rfl rfl rfl ?_
        refine zi_ifd rfl rfl rfl (tgt := 33) (by decide) (fun c8 => ?_) (fun c8 => ?_)
        · rw [if_pos c8] at hk
          refine zi_a (st' := .int 0 :: _) rfl rfl rfl ?_
          cases hk
          exact zi_rz rfl rfl (Or.inl rfl) (k w h)
        · rw [if_neg c8] at hk
          refine zi_a (st' := .int 1 :: _) rfl rfl rfl ?_
          refine zi_go rfl rfl rfl (tgt := 34) (by decide) ?_
          cases hk
          exact zi_rz rfl rfl (Or.inr rfl) (k w h)

def mF_isStatement (a1 : Int32) (μ : mS) : Option (Int32 × mS) :=
  match mF_isNode a1 μ with | none => none | some (v2, μ3) => if v2 = 0 then (some ((0 : Int32), μ3)) else (if zix a1 200 then if (μ3.1 1 (a1).toNatClampNeg) < (10 : Int32) then (some ((0 : Int32), μ3)) else (if zix a1 200 then if (21 : Int32) < (μ3.1 1 (a1).toNatClampNeg) then (some ((0 : Int32), μ3)) else (some ((1 : Int32), μ3)) else none) else none)
theorem mT_isStatement {S : zS} {d : Nat} {w w0 : zW} {Post : Option Value → zW → Prop} {m0 : Nat} {μ μ2 : mS} {v : Int32} {a1 : Int32} (hk : mF_isStatement a1 μ = some (v, μ2)) (h : mW m0 w0 μ w) (k : ∀ w2, mW m0 w0 μ2 w2 → Post (some (.int v)) w2) : zOk S (d + 1) 74 0 (lv_args 0 [.ref m0, .int a1]) [] w Post := by
  unfold mF_isStatement at hk
  refine zi_l rfl rfl rfl ?_
  refine zi_l rfl rfl rfl ?_
  cases c1 : mF_isNode a1 μ with
  | none => rw [c1] at hk; cases hk
  | some q =>
    obtain ⟨v2, μ3⟩ := q
    rw [c1] at hk
    dsimp only at hk
    refine zm_c h rfl rfl rfl rfl rfl rfl (mT_isNode c1 h (fun w h => ?_))
    refine zi_ifd rfl rfl rfl (tgt := 34) (by decide) (fun c4 => ?_) (fun c4 => ?_)
    · rw [if_pos c4] at hk
      refine zi_a (st' := .int 0 :: _) rfl rfl rfl ?_
      cases hk
      exact zi_rz rfl rfl (Or.inl rfl) (k w h)
    · rw [if_neg c4] at hk
      refine zi_l rfl rfl rfl ?_
      refine zm_ga (f := 1) h rfl rfl (by decide) ?_
      refine zi_l rfl rfl rfl ?_
      by_cases q5 : zix a1 200
      case neg => rw [if_neg q5] at hk; cases hk
      rw [if_pos q5] at hk
      refine zm_ld (f := 1) h rfl (by decide) rfl q5 ?_
      refine zi_a (st' := .int 10 :: _) rfl rfl rfl ?_
      refine zi_ifd rfl rfl rfl (tgt := 34) (by decide) (fun c6 => ?_) (fun c6 => ?_)
      · rw [if_pos c6] at hk
        refine zi_a (st' := .int 0 :: _) rfl rfl rfl ?_
        cases hk
        exact zi_rz rfl rfl (Or.inl rfl) (k w h)
      · rw [if_neg c6] at hk
        refine zi_l rfl rfl rfl ?_
        refine zm_ga (f := 1) h rfl rfl (by decide) ?_
        refine zi_l rfl rfl rfl ?_
        by_cases q7 : zix a1 200
        case neg => rw [if_neg q7] at hk; cases hk
        rw [if_pos q7] at hk
        refine zm_ld (f := 1) h rfl (by decide) rfl q7 ?_
        refine zi_a (st' := .int 21 :: _) rfl rfl rfl ?_
        refine zi_ifd rfl rfl rfl (tgt := 34) (by decide) (fun c8 => ?_) (fun c8 => ?_)
        · rw [if_pos c8] at hk
          refine zi_a (st' := .int 0 :: _) rfl rfl rfl ?_
          cases hk
          exact zi_rz rfl rfl (Or.inl rfl) (k w h)
        · rw [if_neg c8] at hk
          refine zi_a (st' := .int 1 :: _) rfl rfl rfl ?_
          refine zi_go rfl rfl rfl (tgt := 35) (by decide) ?_
          cases hk
          exact zi_rz rfl rfl (Or.inr rfl) (k w h)

def mF_depth (a1 : Int32) (μ : mS) : Option (Int32 × mS) :=
  if ¬ a1 = (-1 : Int32) then (if zix a1 200 then some ((μ.1 6 (a1).toNatClampNeg), μ) else none) else (some ((0 : Int32), μ))
theorem mT_depth {S : zS} {d : Nat} {w w0 : zW} {Post : Option Value → zW → Prop} {m0 : Nat} {μ μ2 : mS} {v : Int32} {a1 : Int32} (hk : mF_depth a1 μ = some (v, μ2)) (h : mW m0 w0 μ w) (k : ∀ w2, mW m0 w0 μ2 w2 → Post (some (.int v)) w2) : zOk S (d + 0) 78 0 (lv_args 0 [.ref m0, .int a1]) [] w Post := by
  unfold mF_depth at hk
  refine zi_l rfl rfl rfl ?_
  refine zi_a (st' := .int (-1) :: _) rfl rfl rfl ?_
  refine zi_ifd rfl rfl rfl (tgt := 9) (by decide) (fun c1 => ?_) (fun c1 => ?_)
  · rw [if_pos c1] at hk
    refine zi_l rfl rfl rfl ?_
    refine zm_ga (f := 6) h rfl rfl (by decide) ?_
    refine zi_l rfl rfl rfl ?_
    by_cases q2 : zix a1 200
    case neg => rw [if_neg q2] at hk; cases hk
    rw [if_pos q2] at hk
    refine zm_ld (f := 6) h rfl (by decide) rfl q2 ?_
    cases hk
    exact zi_ri rfl rfl (k w h)
  · rw [if_neg c1] at hk
    refine zi_a (st' := .int 0 :: _) rfl rfl rfl ?_
    refine zi_go rfl rfl rfl (tgt := 15) (by decide) ?_
    cases hk
    exact zi_ri rfl rfl (k w h)

def mF_signal (a1 : Int32) (a2 : Int64) (μ : mS) : Option (Int32 × mS) :=
  match mF_isPlace a1 μ with | none => none | some (v2, μ3) => if ¬ v2 = 0 then (if zix a1 16 then mPut (mu2 μ3 19 (a1).toNatClampNeg a2) fun m6 => some ((1 : Int32), m6) else none) else (some ((0 : Int32), μ3))
theorem mT_signal {S : zS} {d : Nat} {w w0 : zW} {Post : Option Value → zW → Prop} {m0 : Nat} {μ μ2 : mS} {v : Int32} {a1 : Int32} {a2 : Int64} (hk : mF_signal a1 a2 μ = some (v, μ2)) (h : mW m0 w0 μ w) (k : ∀ w2, mW m0 w0 μ2 w2 → Post (some (.int v)) w2) : zOk S (d + 1) 79 0 (lv_args 0 [.ref m0, .int a1, .long a2]) [] w Post := by
  unfold mF_signal at hk
  refine zi_l rfl rfl rfl ?_
  cases c1 : mF_isPlace a1 μ with
  | none => rw [c1] at hk; cases hk
  | some q =>
    obtain ⟨v2, μ3⟩ := q
    rw [c1] at hk
    dsimp only at hk
    refine zi_s rfl rfl rfl rfl rfl (mT_isPlace c1 h (fun w h => ?_))
    refine zi_ifd rfl rfl rfl (tgt := 9) (by decide) (fun c4 => ?_) (fun c4 => ?_)
    · rw [if_pos c4] at hk
      refine zi_l rfl rfl rfl ?_
      refine zm_ga (f := 19) h rfl rfl (by decide) ?_
      refine zi_l rfl rfl rfl ?_
      refine zi_l rfl rfl rfl ?_
      by_cases q5 : zix a1 16
      case neg => rw [if_neg q5] at hk; cases hk
      rw [if_pos q5] at hk
      refine zm_sl (f := 19) h rfl (by decide) rfl q5 (fun w h => ?_)
      generalize mu2 μ3 19 (a1).toNatClampNeg a2 = m6 at h hk
      rw [mPut_eq] at hk
      refine zi_a (st' := .int 1 :: _) rfl rfl rfl ?_
      cases hk
      exact zi_rz rfl rfl (Or.inr rfl) (k w h)
    · rw [if_neg c4] at hk
      refine zi_a (st' := .int 0 :: _) rfl rfl rfl ?_
      cases hk
      exact zi_rz rfl rfl (Or.inl rfl) (k w h)

def mF_value (a1 : Int32) (μ : mS) : Option (Int64 × mS) :=
  match mF_isPlace a1 μ with | none => none | some (v2, μ3) => if v2 = 0 then (some ((0 : Int64), μ3)) else (if zix a1 16 then some ((μ3.2 20 (a1).toNatClampNeg), μ3) else none)
theorem mT_value {S : zS} {d : Nat} {w w0 : zW} {Post : Option Value → zW → Prop} {m0 : Nat} {μ μ2 : mS} {v : Int64} {a1 : Int32} (hk : mF_value a1 μ = some (v, μ2)) (h : mW m0 w0 μ w) (k : ∀ w2, mW m0 w0 μ2 w2 → Post (some (.long v)) w2) : zOk S (d + 1) 107 0 (lv_args 0 [.ref m0, .int a1]) [] w Post := by
  unfold mF_value at hk
  refine zi_l rfl rfl rfl ?_
  cases c1 : mF_isPlace a1 μ with
  | none => rw [c1] at hk; cases hk
  | some q =>
    obtain ⟨v2, μ3⟩ := q
    rw [c1] at hk
    dsimp only at hk
    refine zi_s rfl rfl rfl rfl rfl (mT_isPlace c1 h (fun w h => ?_))
    refine zi_ifd rfl rfl rfl (tgt := 16) (by decide) (fun c4 => ?_) (fun c4 => ?_)
    · rw [if_pos c4] at hk
      refine zi_a (st' := .long 0 :: _) rfl rfl rfl ?_
      cases hk
      exact zi_rl rfl rfl (k w h)
    · rw [if_neg c4] at hk
      refine zi_l rfl rfl rfl ?_
      refine zm_ga (f := 20) h rfl rfl (by decide) ?_
      refine zi_l rfl rfl rfl ?_
      by_cases q5 : zix a1 16
      case neg => rw [if_neg q5] at hk; cases hk
      rw [if_pos q5] at hk
      refine zm_ll (f := 20) h rfl (by decide) rfl q5 ?_
      refine zi_go rfl rfl rfl (tgt := 17) (by decide) ?_
      cases hk
      exact zi_rl rfl rfl (k w h)

def mF_safe (a1 : Int32) (a2 : Int64) (μ : mS) : Option (Int32 × mS) :=
  match mF_isPlace a1 μ with | none => none | some (v2, μ3) => if ¬ v2 = 0 then (if zix a1 16 then mPut (mu2 μ3 22 (a1).toNatClampNeg a2) fun m6 => if zix a1 16 then mPut (mu1 m6 23 (a1).toNatClampNeg (1 : Int32)) fun m8 => some ((1 : Int32), m8) else none else none) else (some ((0 : Int32), μ3))
theorem mT_safe {S : zS} {d : Nat} {w w0 : zW} {Post : Option Value → zW → Prop} {m0 : Nat} {μ μ2 : mS} {v : Int32} {a1 : Int32} {a2 : Int64} (hk : mF_safe a1 a2 μ = some (v, μ2)) (h : mW m0 w0 μ w) (k : ∀ w2, mW m0 w0 μ2 w2 → Post (some (.int v)) w2) : zOk S (d + 1) 108 0 (lv_args 0 [.ref m0, .int a1, .long a2]) [] w Post := by
  unfold mF_safe at hk
  refine zi_l rfl rfl rfl ?_
  cases c1 : mF_isPlace a1 μ with
  | none => rw [c1] at hk; cases hk
  | some q =>
    obtain ⟨v2, μ3⟩ := q
    rw [c1] at hk
    dsimp only at hk
    refine zi_s rfl rfl rfl rfl rfl (mT_isPlace c1 h (fun w h => ?_))
    refine zi_ifd rfl rfl rfl (tgt := 9) (by decide) (fun c4 => ?_) (fun c4 => ?_)
    · rw [if_pos c4] at hk
      refine zi_l rfl rfl rfl ?_
      refine zm_ga (f := 22) h rfl rfl (by decide) ?_
      refine zi_l rfl rfl rfl ?_
      refine zi_l rfl rfl rfl ?_
      by_cases q5 : zix a1 16
      case neg => rw [if_neg q5] at hk; cases hk
      rw [if_pos q5] at hk
      refine zm_sl (f := 22) h rfl (by decide) rfl q5 (fun w h => ?_)
      generalize mu2 μ3 22 (a1).toNatClampNeg a2 = m6 at h hk
      rw [mPut_eq] at hk
      refine zi_l rfl rfl rfl ?_
      refine zm_ga (f := 23) h rfl rfl (by decide) ?_
      refine zi_l rfl rfl rfl ?_
      refine zi_a (st' := .int 1 :: _) rfl rfl rfl ?_
      by_cases q7 : zix a1 16
      case neg => rw [if_neg q7] at hk; cases hk
      rw [if_pos q7] at hk
      refine zm_sz (f := 23) h rfl (by decide) rfl rfl q7 (fun w h => ?_)
      generalize mu1 m6 23 (a1).toNatClampNeg (1 : Int32) = m8 at h hk
      rw [mPut_eq] at hk
      refine zi_a (st' := .int 1 :: _) rfl rfl rfl ?_
      cases hk
      exact zi_rz rfl rfl (Or.inr rfl) (k w h)
    · rw [if_neg c4] at hk
      refine zi_a (st' := .int 0 :: _) rfl rfl rfl ?_
      cases hk
      exact zi_rz rfl rfl (Or.inl rfl) (k w h)

def mF_output (a1 : Int32) (μ : mS) : Option (Int64 × mS) :=
  match mF_isPlace a1 μ with | none => none | some (v2, μ3) => if ¬ v2 = 0 then (if (μ3.1 24 0) = 0 then (if zix a1 16 then some ((μ3.2 21 (a1).toNatClampNeg), μ3) else none) else (if ¬ (μ3.1 25 0) = (2 : Int32) then (if zix a1 16 then some ((μ3.2 21 (a1).toNatClampNeg), μ3) else none) else (if zix a1 16 then if (μ3.1 23 (a1).toNatClampNeg) = 0 then (if zix a1 16 then some ((μ3.2 21 (a1).toNatClampNeg), μ3) else none) else (if zix a1 16 then some ((μ3.2 22 (a1).toNatClampNeg), μ3) else none) else none))) else (some ((0 : Int64), μ3))
theorem mT_output {S : zS} {d : Nat} {w w0 : zW} {Post : Option Value → zW → Prop} {m0 : Nat} {μ μ2 : mS} {v : Int64} {a1 : Int32} (hk : mF_output a1 μ = some (v, μ2)) (h : mW m0 w0 μ w) (k : ∀ w2, mW m0 w0 μ2 w2 → Post (some (.long v)) w2) : zOk S (d + 1) 98 0 (lv_args 0 [.ref m0, .int a1]) [] w Post := by
  unfold mF_output at hk
  refine zi_l rfl rfl rfl ?_
  cases c1 : mF_isPlace a1 μ with
  | none => rw [c1] at hk; cases hk
  | some q =>
    obtain ⟨v2, μ3⟩ := q
    rw [c1] at hk
    dsimp only at hk
    refine zi_s rfl rfl rfl rfl rfl (mT_isPlace c1 h (fun w h => ?_))
    refine zi_ifd rfl rfl rfl (tgt := 9) (by decide) (fun c4 => ?_) (fun c4 => ?_)
    · rw [if_pos c4] at hk
      refine zi_l rfl rfl rfl ?_
      refine zm_g h rfl rfl rfl rfl ?_
      refine zi_ifd rfl rfl rfl (tgt := 42) (by decide) (fun c5 => ?_) (fun c5 => ?_)
      · rw [if_pos c5] at hk
        refine zi_l rfl rfl rfl ?_
        refine zm_ga (f := 21) h rfl rfl (by decide) ?_
        refine zi_l rfl rfl rfl ?_
        by_cases q6 : zix a1 16
        case neg => rw [if_neg q6] at hk; cases hk
        rw [if_pos q6] at hk
        refine zm_ll (f := 21) h rfl (by decide) rfl q6 ?_
        cases hk
        exact zi_rl rfl rfl (k w h)
      · rw [if_neg c5] at hk
        refine zi_l rfl rfl rfl ?_
        refine zm_g h rfl rfl rfl rfl ?_
        refine zi_a (st' := .int 2 :: _) rfl rfl rfl ?_
        refine zi_ifd rfl rfl rfl (tgt := 42) (by decide) (fun c7 => ?_) (fun c7 => ?_)
        · rw [if_pos c7] at hk
          refine zi_l rfl rfl rfl ?_
          refine zm_ga (f := 21) h rfl rfl (by decide) ?_
          refine zi_l rfl rfl rfl ?_
          by_cases q8 : zix a1 16
          case neg => rw [if_neg q8] at hk; cases hk
          rw [if_pos q8] at hk
          refine zm_ll (f := 21) h rfl (by decide) rfl q8 ?_
          cases hk
          exact zi_rl rfl rfl (k w h)
        · rw [if_neg c7] at hk
          refine zi_l rfl rfl rfl ?_
          refine zm_ga (f := 23) h rfl rfl (by decide) ?_
          refine zi_l rfl rfl rfl ?_
          by_cases q9 : zix a1 16
          case neg => rw [if_neg q9] at hk; cases hk
          rw [if_pos q9] at hk
          refine zm_lz (f := 23) h rfl (by decide) rfl q9 ?_
          refine zi_ifd rfl rfl rfl (tgt := 42) (by decide) (fun c10 => ?_) (fun c10 => ?_)
          · rw [if_pos c10] at hk
            refine zi_l rfl rfl rfl ?_
            refine zm_ga (f := 21) h rfl rfl (by decide) ?_
            refine zi_l rfl rfl rfl ?_
            by_cases q11 : zix a1 16
            case neg => rw [if_neg q11] at hk; cases hk
            rw [if_pos q11] at hk
            refine zm_ll (f := 21) h rfl (by decide) rfl q11 ?_
            cases hk
            exact zi_rl rfl rfl (k w h)
          · rw [if_neg c10] at hk
            refine zi_l rfl rfl rfl ?_
            refine zm_ga (f := 22) h rfl rfl (by decide) ?_
            refine zi_l rfl rfl rfl ?_
            by_cases q12 : zix a1 16
            case neg => rw [if_neg q12] at hk; cases hk
            rw [if_pos q12] at hk
            refine zm_ll (f := 22) h rfl (by decide) rfl q12 ?_
            refine zi_go rfl rfl rfl (tgt := 48) (by decide) ?_
            cases hk
            exact zi_rl rfl rfl (k w h)
    · rw [if_neg c4] at hk
      refine zi_a (st' := .long 0 :: _) rfl rfl rfl ?_
      cases hk
      exact zi_rl rfl rfl (k w h)

def mF_note (a1 : Int32) (a2 : Int32) (μ : mS) : Option (Unit × mS) :=
  if (200 : Int32) ≤ (μ.1 30 0) then (some ((), μ)) else (if zix (μ.1 30 0) 200 then mPut (mu1 μ 31 ((μ.1 30 0)).toNatClampNeg ((μ.2 26 0)).toInt32) fun m3 => if zix (m3.1 30 0) 200 then mPut (mu1 m3 32 ((m3.1 30 0)).toNatClampNeg a1) fun m5 => if zix (m5.1 30 0) 200 then mPut (mu1 m5 33 ((m5.1 30 0)).toNatClampNeg a2) fun m7 => mPut (mu1 m7 30 0 ((m7.1 30 0) + (1 : Int32))) fun m8 => some ((), m8) else none else none else none)
theorem mT_note {S : zS} {d : Nat} {w w0 : zW} {Post : Option Value → zW → Prop} {m0 : Nat} {μ μ2 : mS} {v : Unit} {a1 : Int32} {a2 : Int32} (hk : mF_note a1 a2 μ = some (v, μ2)) (h : mW m0 w0 μ w) (k : ∀ w2, mW m0 w0 μ2 w2 → Post none w2) : zOk S (d + 0) 87 0 (lv_args 0 [.ref m0, .int a1, .int a2]) [] w Post := by
  unfold mF_note at hk
  refine zi_l rfl rfl rfl ?_
  refine zm_g h rfl rfl rfl rfl ?_
  refine zi_a (st' := .int 200 :: _) rfl rfl rfl ?_
  refine zi_ifd rfl rfl rfl (tgt := 54) (by decide) (fun c1 => ?_) (fun c1 => ?_)
  · rw [if_pos c1] at hk
    cases hk
    exact zi_ret rfl rfl rfl (k w h)
  · rw [if_neg c1] at hk
    refine zi_l rfl rfl rfl ?_
    refine zm_ga (f := 31) h rfl rfl (by decide) ?_
    refine zi_l rfl rfl rfl ?_
    refine zm_g h rfl rfl rfl rfl ?_
    refine zi_l rfl rfl rfl ?_
    refine zm_gl h rfl rfl rfl rfl ?_
    refine zi_a rfl rfl rfl ?_
    by_cases q2 : zix (μ.1 30 0) 200
    case neg => rw [if_neg q2] at hk; cases hk
    rw [if_pos q2] at hk
    refine zm_st (f := 31) h rfl (by decide) rfl q2 (fun w h => ?_)
    generalize mu1 μ 31 ((μ.1 30 0)).toNatClampNeg ((μ.2 26 0)).toInt32 = m3 at h hk
    rw [mPut_eq] at hk
    refine zi_l rfl rfl rfl ?_
    refine zm_ga (f := 32) h rfl rfl (by decide) ?_
    refine zi_l rfl rfl rfl ?_
    refine zm_g h rfl rfl rfl rfl ?_
    refine zi_l rfl rfl rfl ?_
    by_cases q4 : zix (m3.1 30 0) 200
    case neg => rw [if_neg q4] at hk; cases hk
    rw [if_pos q4] at hk
    refine zm_st (f := 32) h rfl (by decide) rfl q4 (fun w h => ?_)
    generalize mu1 m3 32 ((m3.1 30 0)).toNatClampNeg a1 = m5 at h hk
    rw [mPut_eq] at hk
    refine zi_l rfl rfl rfl ?_
    refine zm_ga (f := 33) h rfl rfl (by decide) ?_
    refine zi_l rfl rfl rfl ?_
    refine zm_g h rfl rfl rfl rfl ?_
    refine zi_l rfl rfl rfl ?_
    by_cases q6 : zix (m5.1 30 0) 200
    case neg => rw [if_neg q6] at hk; cases hk
    rw [if_pos q6] at hk
    refine zm_st (f := 33) h rfl (by decide) rfl q6 (fun w h => ?_)
    generalize mu1 m5 33 ((m5.1 30 0)).toNatClampNeg a2 = m7 at h hk
    rw [mPut_eq] at hk
    refine zi_l rfl rfl rfl ?_
    refine zi_a rfl rfl rfl ?_
    refine zm_g h rfl rfl rfl rfl ?_
    refine zi_a (st' := .int 1 :: _) rfl rfl rfl ?_
    refine zi_a rfl rfl rfl ?_
    refine zm_p h rfl rfl rfl rfl ⟨rfl, rfl, Or.inl rfl⟩ (fun w h => ?_)
    generalize mu1 m7 30 0 ((m7.1 30 0) + (1 : Int32)) = m8 at h hk
    rw [mPut_eq] at hk
    cases hk
    exact zi_ret rfl rfl rfl (k w h)

def mF_isBad  (μ : mS) : Option (Int32 × mS) :=
  if 0 ≤ (μ.1 29 0) then (match mF_note (μ.1 29 0) (1 : Int32) μ with | none => none | some (v3, μ4) => mPut (mu1 μ4 29 0 (-1 : Int32)) fun m5 => some ((1 : Int32), m5)) else (some ((0 : Int32), μ))
theorem mT_isBad {S : zS} {d : Nat} {w w0 : zW} {Post : Option Value → zW → Prop} {m0 : Nat} {μ μ2 : mS} {v : Int32} (hk : mF_isBad  μ = some (v, μ2)) (h : mW m0 w0 μ w) (k : ∀ w2, mW m0 w0 μ2 w2 → Post (some (.int v)) w2) : zOk S (d + 1) 86 0 (lv_args 0 [.ref m0]) [] w Post := by
  unfold mF_isBad at hk
  refine zi_l rfl rfl rfl ?_
  refine zm_g h rfl rfl rfl rfl ?_
  refine zi_ifd rfl rfl rfl (tgt := 9) (by decide) (fun c1 => ?_) (fun c1 => ?_)
  · rw [if_pos c1] at hk
    refine zi_l rfl rfl rfl ?_
    refine zi_l rfl rfl rfl ?_
    refine zm_g h rfl rfl rfl rfl ?_
    refine zi_a (st' := .int 1 :: _) rfl rfl rfl ?_
    cases c2 : mF_note (μ.1 29 0) (1 : Int32) μ with
    | none => rw [c2] at hk; cases hk
    | some q =>
      obtain ⟨v3, μ4⟩ := q
      rw [c2] at hk
      dsimp only at hk
      refine zm_c h rfl rfl rfl rfl rfl rfl (mT_note c2 h (fun w h => ?_))
      refine zi_l rfl rfl rfl ?_
      refine zi_a (st' := .int (-1) :: _) rfl rfl rfl ?_
      refine zm_p h rfl rfl rfl rfl ⟨rfl, rfl, Or.inl rfl⟩ (fun w h => ?_)
      generalize mu1 μ4 29 0 (-1 : Int32) = m5 at h hk
      rw [mPut_eq] at hk
      refine zi_a (st' := .int 1 :: _) rfl rfl rfl ?_
      cases hk
      exact zi_rz rfl rfl (Or.inr rfl) (k w h)
  · rw [if_neg c1] at hk
    refine zi_a (st' := .int 0 :: _) rfl rfl rfl ?_
    cases hk
    exact zi_rz rfl rfl (Or.inl rfl) (k w h)

def mF_close (a1 : Int32) (μ : mS) : Option (Unit × mS) :=
  if (200 : Int32) ≤ (μ.1 34 0) then (mPut (mu1 μ 34 0 ((μ.1 34 0) + (1 : Int32))) fun m2 => some ((), m2)) else (if zix (μ.1 34 0) 200 then mPut (mu1 μ 35 ((μ.1 34 0)).toNatClampNeg a1) fun m4 => mPut (mu1 m4 34 0 ((m4.1 34 0) + (1 : Int32))) fun m5 => some ((), m5) else none)
theorem mT_close {S : zS} {d : Nat} {w w0 : zW} {Post : Option Value → zW → Prop} {m0 : Nat} {μ μ2 : mS} {v : Unit} {a1 : Int32} (hk : mF_close a1 μ = some (v, μ2)) (h : mW m0 w0 μ w) (k : ∀ w2, mW m0 w0 μ2 w2 → Post none w2) : zOk S (d + 0) 97 0 (lv_args 0 [.ref m0, .int a1]) [] w Post := by
  unfold mF_close at hk
  refine zi_l rfl rfl rfl ?_
  refine zm_g h rfl rfl rfl rfl ?_
  refine zi_a (st' := .int 200 :: _) rfl rfl rfl ?_
  refine zi_ifd rfl rfl rfl (tgt := 20) (by decide) (fun c1 => ?_) (fun c1 => ?_)
  · rw [if_pos c1] at hk
    refine zi_l rfl rfl rfl ?_
    refine zi_a rfl rfl rfl ?_
    refine zm_g h rfl rfl rfl rfl ?_
    refine zi_a (st' := .int 1 :: _) rfl rfl rfl ?_
    refine zi_a rfl rfl rfl ?_
    refine zm_p h rfl rfl rfl rfl ⟨rfl, rfl, Or.inl rfl⟩ (fun w h => ?_)
    generalize mu1 μ 34 0 ((μ.1 34 0) + (1 : Int32)) = m2 at h hk
    rw [mPut_eq] at hk
    cases hk
    exact zi_ret rfl rfl rfl (k w h)
  · rw [if_neg c1] at hk
    refine zi_l rfl rfl rfl ?_
    refine zm_ga (f := 35) h rfl rfl (by decide) ?_
    refine zi_l rfl rfl rfl ?_
    refine zm_g h rfl rfl rfl rfl ?_
    refine zi_l rfl rfl rfl ?_
    by_cases q3 : zix (μ.1 34 0) 200
    case neg => rw [if_neg q3] at hk; cases hk
    rw [if_pos q3] at hk
    refine zm_st (f := 35) h rfl (by decide) rfl q3 (fun w h => ?_)
    generalize mu1 μ 35 ((μ.1 34 0)).toNatClampNeg a1 = m4 at h hk
    rw [mPut_eq] at hk
    refine zi_l rfl rfl rfl ?_
    refine zi_a rfl rfl rfl ?_
    refine zm_g h rfl rfl rfl rfl ?_
    refine zi_a (st' := .int 1 :: _) rfl rfl rfl ?_
    refine zi_a rfl rfl rfl ?_
    refine zm_p h rfl rfl rfl rfl ⟨rfl, rfl, Or.inl rfl⟩ (fun w h => ?_)
    generalize mu1 m4 34 0 ((m4.1 34 0) + (1 : Int32)) = m5 at h hk
    rw [mPut_eq] at hk
    cases hk
    exact zi_ret rfl rfl rfl (k w h)

def mF_isOpen  (μ : mS) : Option (Int32 × mS) :=
  if (μ.1 24 0) = 0 then (some ((0 : Int32), μ)) else (if (μ.1 25 0) = (1 : Int32) then (some ((0 : Int32), μ)) else (if (μ.1 25 0) = (3 : Int32) then (some ((0 : Int32), μ)) else (some ((1 : Int32), μ))))
theorem mT_isOpen {S : zS} {d : Nat} {w w0 : zW} {Post : Option Value → zW → Prop} {m0 : Nat} {μ μ2 : mS} {v : Int32} (hk : mF_isOpen  μ = some (v, μ2)) (h : mW m0 w0 μ w) (k : ∀ w2, mW m0 w0 μ2 w2 → Post (some (.int v)) w2) : zOk S (d + 0) 100 0 (lv_args 0 [.ref m0]) [] w Post := by
  unfold mF_isOpen at hk
  refine zi_l rfl rfl rfl ?_
  refine zm_g h rfl rfl rfl rfl ?_
  refine zi_ifd rfl rfl rfl (tgt := 27) (by decide) (fun c1 => ?_) (fun c1 => ?_)
  · rw [if_pos c1] at hk
    refine zi_a (st' := .int 0 :: _) rfl rfl rfl ?_
    cases hk
    exact zi_rz rfl rfl (Or.inl rfl) (k w h)
  · rw [if_neg c1] at hk
    refine zi_l rfl rfl rfl ?_
    refine zm_g h rfl rfl rfl rfl ?_
    refine zi_a (st' := .int 1 :: _) rfl rfl rfl ?_
    refine zi_ifd rfl rfl rfl (tgt := 27) (by decide) (fun c2 => ?_) (fun c2 => ?_)
    · rw [if_pos c2] at hk
      refine zi_a (st' := .int 0 :: _) rfl rfl rfl ?_
      cases hk
      exact zi_rz rfl rfl (Or.inl rfl) (k w h)
    · rw [if_neg c2] at hk
      refine zi_l rfl rfl rfl ?_
      refine zm_g h rfl rfl rfl rfl ?_
      refine zi_a (st' := .int 3 :: _) rfl rfl rfl ?_
      refine zi_ifd rfl rfl rfl (tgt := 27) (by decide) (fun c3 => ?_) (fun c3 => ?_)
      · rw [if_pos c3] at hk
        refine zi_a (st' := .int 0 :: _) rfl rfl rfl ?_
        cases hk
        exact zi_rz rfl rfl (Or.inl rfl) (k w h)
      · rw [if_neg c3] at hk
        refine zi_a (st' := .int 1 :: _) rfl rfl rfl ?_
        refine zi_go rfl rfl rfl (tgt := 28) (by decide) ?_
        cases hk
        exact zi_rz rfl rfl (Or.inr rfl) (k w h)

def mF_alarm (a1 : Int32) (a2 : Int32) (μ : mS) : Option (Int32 × mS) :=
  if (μ.1 24 0) = 0 then (some ((-1 : Int32), μ)) else (if a1 < 0 then (some ((-1 : Int32), μ)) else (if a1 < (μ.1 30 0) then (if ¬ a2 = 0 then (if ¬ a2 = (1 : Int32) then (if ¬ a2 = (2 : Int32) then (some ((-1 : Int32), μ)) else (if zix a1 200 then some ((μ.1 33 (a1).toNatClampNeg), μ) else none)) else (if zix a1 200 then some ((μ.1 32 (a1).toNatClampNeg), μ) else none)) else (if zix a1 200 then some ((μ.1 31 (a1).toNatClampNeg), μ) else none)) else (some ((-1 : Int32), μ))))
theorem mT_alarm {S : zS} {d : Nat} {w w0 : zW} {Post : Option Value → zW → Prop} {m0 : Nat} {μ μ2 : mS} {v : Int32} {a1 : Int32} {a2 : Int32} (hk : mF_alarm a1 a2 μ = some (v, μ2)) (h : mW m0 w0 μ w) (k : ∀ w2, mW m0 w0 μ2 w2 → Post (some (.int v)) w2) : zOk S (d + 0) 102 0 (lv_args 0 [.ref m0, .int a1, .int a2]) [] w Post := by
  unfold mF_alarm at hk
  refine zi_l rfl rfl rfl ?_
  refine zm_g h rfl rfl rfl rfl ?_
  refine zi_ifd rfl rfl rfl (tgt := 19) (by decide) (fun c1 => ?_) (fun c1 => ?_)
  · rw [if_pos c1] at hk
    refine zi_a (st' := .int (-1) :: _) rfl rfl rfl ?_
    cases hk
    exact zi_ri rfl rfl (k w h)
  · rw [if_neg c1] at hk
    refine zi_l rfl rfl rfl ?_
    refine zi_ifd rfl rfl rfl (tgt := 19) (by decide) (fun c2 => ?_) (fun c2 => ?_)
    · rw [if_pos c2] at hk
      refine zi_a (st' := .int (-1) :: _) rfl rfl rfl ?_
      cases hk
      exact zi_ri rfl rfl (k w h)
    · rw [if_neg c2] at hk
      refine zi_l rfl rfl rfl ?_
      refine zi_l rfl rfl rfl ?_
      refine zm_g h rfl rfl rfl rfl ?_
      refine zi_ifd rfl rfl rfl (tgt := 21) (by decide) (fun c3 => ?_) (fun c3 => ?_)
      · rw [if_pos c3] at hk
        refine zi_l rfl rfl rfl ?_
        refine zi_ifd rfl rfl rfl (tgt := 34) (by decide) (fun c4 => ?_) (fun c4 => ?_)
        · rw [if_pos c4] at hk
          refine zi_l rfl rfl rfl ?_
          refine zi_a (st' := .int 1 :: _) rfl rfl rfl ?_
          refine zi_ifd rfl rfl rfl (tgt := 48) (by decide) (fun c5 => ?_) (fun c5 => ?_)
          · rw [if_pos c5] at hk
            refine zi_l rfl rfl rfl ?_
            refine zi_a (st' := .int 2 :: _) rfl rfl rfl ?_
            refine zi_ifd rfl rfl rfl (tgt := 62) (by decide) (fun c6 => ?_) (fun c6 => ?_)
            · rw [if_pos c6] at hk
              refine zi_a (st' := .int (-1) :: _) rfl rfl rfl ?_
              cases hk
              exact zi_ri rfl rfl (k w h)
            · rw [if_neg c6] at hk
              refine zi_l rfl rfl rfl ?_
              refine zm_ga (f := 33) h rfl rfl (by decide) ?_
              refine zi_l rfl rfl rfl ?_
              by_cases q7 : zix a1 200
              case neg => rw [if_neg q7] at hk; cases hk
              rw [if_pos q7] at hk
              refine zm_ld (f := 33) h rfl (by decide) rfl q7 ?_
              refine zi_go rfl rfl rfl (tgt := 63) (by decide) ?_
              cases hk
              exact zi_ri rfl rfl (k w h)
          · rw [if_neg c5] at hk
            refine zi_l rfl rfl rfl ?_
            refine zm_ga (f := 32) h rfl rfl (by decide) ?_
            refine zi_l rfl rfl rfl ?_
            by_cases q8 : zix a1 200
            case neg => rw [if_neg q8] at hk; cases hk
            rw [if_pos q8] at hk
            refine zm_ld (f := 32) h rfl (by decide) rfl q8 ?_
            refine zi_go rfl rfl rfl (tgt := 63) (by decide) ?_
            cases hk
            exact zi_ri rfl rfl (k w h)
        · rw [if_neg c4] at hk
          refine zi_l rfl rfl rfl ?_
          refine zm_ga (f := 31) h rfl rfl (by decide) ?_
          refine zi_l rfl rfl rfl ?_
          by_cases q9 : zix a1 200
          case neg => rw [if_neg q9] at hk; cases hk
          rw [if_pos q9] at hk
          refine zm_ld (f := 31) h rfl (by decide) rfl q9 ?_
          refine zi_go rfl rfl rfl (tgt := 63) (by decide) ?_
          cases hk
          exact zi_ri rfl rfl (k w h)
      · rw [if_neg c3] at hk
        refine zi_a (st' := .int (-1) :: _) rfl rfl rfl ?_
        cases hk
        exact zi_ri rfl rfl (k w h)

def mF_hold (a1 : Int32) (μ : mS) : Option (Int32 × mS) :=
  match mF_isOpen  μ with | none => none | some (v2, μ3) => if v2 = 0 then (some ((0 : Int32), μ3)) else (if ¬ (μ3.1 25 0) = (2 : Int32) then (if ¬ (0 : Int32) = a1 then (if a1 = 0 then (mPut (mu1 μ3 25 0 (0 : Int32)) fun m8 => some ((1 : Int32), m8)) else (mPut (mu1 μ3 25 0 (2 : Int32)) fun m9 => some ((1 : Int32), m9))) else (some ((0 : Int32), μ3))) else (if ¬ (1 : Int32) = a1 then (if a1 = 0 then (mPut (mu1 μ3 25 0 (0 : Int32)) fun m12 => some ((1 : Int32), m12)) else (mPut (mu1 μ3 25 0 (2 : Int32)) fun m13 => some ((1 : Int32), m13))) else (some ((0 : Int32), μ3))))
theorem mT_hold {S : zS} {d : Nat} {w w0 : zW} {Post : Option Value → zW → Prop} {m0 : Nat} {μ μ2 : mS} {v : Int32} {a1 : Int32} (hk : mF_hold a1 μ = some (v, μ2)) (h : mW m0 w0 μ w) (k : ∀ w2, mW m0 w0 μ2 w2 → Post (some (.int v)) w2) : zOk S (d + 1) 104 0 (lv_args 0 [.ref m0, .int a1]) [] w Post := by
  unfold mF_hold at hk
  refine zi_l rfl rfl rfl ?_
  cases c1 : mF_isOpen  μ with
  | none => rw [c1] at hk; cases hk
  | some q =>
    obtain ⟨v2, μ3⟩ := q
    rw [c1] at hk
    dsimp only at hk
    refine zm_c h rfl rfl rfl rfl rfl rfl (mT_isOpen c1 h (fun w h => ?_))
    refine zi_ifd rfl rfl rfl (tgt := 24) (by decide) (fun c4 => ?_) (fun c4 => ?_)
    · rw [if_pos c4] at hk
      refine zi_a (st' := .int 0 :: _) rfl rfl rfl ?_
      cases hk
      exact zi_rz rfl rfl (Or.inl rfl) (k w h)
    · rw [if_neg c4] at hk
      refine zi_l rfl rfl rfl ?_
      refine zm_g h rfl rfl rfl rfl ?_
      refine zi_a (st' := .int 2 :: _) rfl rfl rfl ?_
      refine zi_ifd rfl rfl rfl (tgt := 19) (by decide) (fun c5 => ?_) (fun c5 => ?_)
      · rw [if_pos c5] at hk
        refine zi_a (st' := .int 0 :: _) rfl rfl rfl ?_
        refine zi_l rfl rfl rfl ?_
        refine zi_ifd rfl rfl rfl (tgt := 26) (by decide) (fun c6 => ?_) (fun c6 => ?_)
        · rw [if_pos c6] at hk
          refine zi_l rfl rfl rfl ?_
          refine zi_l rfl rfl rfl ?_
          refine zi_ifd rfl rfl rfl (tgt := 35) (by decide) (fun c7 => ?_) (fun c7 => ?_)
          · rw [if_pos c7] at hk
            refine zi_a (st' := .int 0 :: _) rfl rfl rfl ?_
            refine zm_p h rfl rfl rfl rfl ⟨rfl, rfl, Or.inl rfl⟩ (fun w h => ?_)
            generalize mu1 μ3 25 0 (0 : Int32) = m8 at h hk
            rw [mPut_eq] at hk
            refine zi_a (st' := .int 1 :: _) rfl rfl rfl ?_
            cases hk
            exact zi_rz rfl rfl (Or.inr rfl) (k w h)
          · rw [if_neg c7] at hk
            refine zi_a (st' := .int 2 :: _) rfl rfl rfl ?_
            refine zi_go rfl rfl rfl (tgt := 36) (by decide) ?_
            refine zm_p h rfl rfl rfl rfl ⟨rfl, rfl, Or.inl rfl⟩ (fun w h => ?_)
            generalize mu1 μ3 25 0 (2 : Int32) = m9 at h hk
            rw [mPut_eq] at hk
            refine zi_a (st' := .int 1 :: _) rfl rfl rfl ?_
            cases hk
            exact zi_rz rfl rfl (Or.inr rfl) (k w h)
        · rw [if_neg c6] at hk
          refine zi_a (st' := .int 0 :: _) rfl rfl rfl ?_
          cases hk
          exact zi_rz rfl rfl (Or.inl rfl) (k w h)
      · rw [if_neg c5] at hk
        refine zi_a (st' := .int 1 :: _) rfl rfl rfl ?_
        refine zi_go rfl rfl rfl (tgt := 20) (by decide) ?_
        refine zi_l rfl rfl rfl ?_
        refine zi_ifd rfl rfl rfl (tgt := 26) (by decide) (fun c10 => ?_) (fun c10 => ?_)
        · rw [if_pos c10] at hk
          refine zi_l rfl rfl rfl ?_
          refine zi_l rfl rfl rfl ?_
          refine zi_ifd rfl rfl rfl (tgt := 35) (by decide) (fun c11 => ?_) (fun c11 => ?_)
          · rw [if_pos c11] at hk
            refine zi_a (st' := .int 0 :: _) rfl rfl rfl ?_
            refine zm_p h rfl rfl rfl rfl ⟨rfl, rfl, Or.inl rfl⟩ (fun w h => ?_)
            generalize mu1 μ3 25 0 (0 : Int32) = m12 at h hk
            rw [mPut_eq] at hk
            refine zi_a (st' := .int 1 :: _) rfl rfl rfl ?_
            cases hk
            exact zi_rz rfl rfl (Or.inr rfl) (k w h)
          · rw [if_neg c11] at hk
            refine zi_a (st' := .int 2 :: _) rfl rfl rfl ?_
            refine zi_go rfl rfl rfl (tgt := 36) (by decide) ?_
            refine zm_p h rfl rfl rfl rfl ⟨rfl, rfl, Or.inl rfl⟩ (fun w h => ?_)
            generalize mu1 μ3 25 0 (2 : Int32) = m13 at h hk
            rw [mPut_eq] at hk
            refine zi_a (st' := .int 1 :: _) rfl rfl rfl ?_
            cases hk
            exact zi_rz rfl rfl (Or.inr rfl) (k w h)
        · rw [if_neg c10] at hk
          refine zi_a (st' := .int 0 :: _) rfl rfl rfl ?_
          cases hk
          exact zi_rz rfl rfl (Or.inl rfl) (k w h)

def mF_closed (a1 : Int32) (μ : mS) : Option (Int32 × mS) :=
  if (μ.1 24 0) = 0 then (some ((-1 : Int32), μ)) else (if a1 < 0 then (some ((-1 : Int32), μ)) else (if (μ.1 34 0) ≤ a1 then (some ((-1 : Int32), μ)) else (if (200 : Int32) ≤ a1 then (some ((-1 : Int32), μ)) else (if zix a1 200 then some ((μ.1 35 (a1).toNatClampNeg), μ) else none))))
theorem mT_closed {S : zS} {d : Nat} {w w0 : zW} {Post : Option Value → zW → Prop} {m0 : Nat} {μ μ2 : mS} {v : Int32} {a1 : Int32} (hk : mF_closed a1 μ = some (v, μ2)) (h : mW m0 w0 μ w) (k : ∀ w2, mW m0 w0 μ2 w2 → Post (some (.int v)) w2) : zOk S (d + 0) 106 0 (lv_args 0 [.ref m0, .int a1]) [] w Post := by
  unfold mF_closed at hk
  refine zi_l rfl rfl rfl ?_
  refine zm_g h rfl rfl rfl rfl ?_
  refine zi_ifd rfl rfl rfl (tgt := 35) (by decide) (fun c1 => ?_) (fun c1 => ?_)
  · rw [if_pos c1] at hk
    refine zi_a (st' := .int (-1) :: _) rfl rfl rfl ?_
    cases hk
    exact zi_ri rfl rfl (k w h)
  · rw [if_neg c1] at hk
    refine zi_l rfl rfl rfl ?_
    refine zi_ifd rfl rfl rfl (tgt := 35) (by decide) (fun c2 => ?_) (fun c2 => ?_)
    · rw [if_pos c2] at hk
      refine zi_a (st' := .int (-1) :: _) rfl rfl rfl ?_
      cases hk
      exact zi_ri rfl rfl (k w h)
    · rw [if_neg c2] at hk
      refine zi_l rfl rfl rfl ?_
      refine zi_l rfl rfl rfl ?_
      refine zm_g h rfl rfl rfl rfl ?_
      refine zi_ifd rfl rfl rfl (tgt := 35) (by decide) (fun c3 => ?_) (fun c3 => ?_)
      · rw [if_pos c3] at hk
        refine zi_a (st' := .int (-1) :: _) rfl rfl rfl ?_
        cases hk
        exact zi_ri rfl rfl (k w h)
      · rw [if_neg c3] at hk
        refine zi_l rfl rfl rfl ?_
        refine zi_a (st' := .int 200 :: _) rfl rfl rfl ?_
        refine zi_ifd rfl rfl rfl (tgt := 35) (by decide) (fun c4 => ?_) (fun c4 => ?_)
        · rw [if_pos c4] at hk
          refine zi_a (st' := .int (-1) :: _) rfl rfl rfl ?_
          cases hk
          exact zi_ri rfl rfl (k w h)
        · rw [if_neg c4] at hk
          refine zi_l rfl rfl rfl ?_
          refine zm_ga (f := 35) h rfl rfl (by decide) ?_
          refine zi_l rfl rfl rfl ?_
          by_cases q5 : zix a1 200
          case neg => rw [if_neg q5] at hk; cases hk
          rw [if_pos q5] at hk
          refine zm_ld (f := 35) h rfl (by decide) rfl q5 ?_
          refine zi_go rfl rfl rfl (tgt := 36) (by decide) ?_
          cases hk
          exact zi_ri rfl rfl (k w h)

def mF_put (a1 : Int32) (a2 : Int32) (a3 : Int32) (a4 : Int32) (a5 : Int64) (a6 : Int32) (a7 : Int32) (μ : mS) : Option (Int32 × mS) :=
  if zix (μ.1 0 0) 200 then mPut (mu1 μ 1 ((μ.1 0 0)).toNatClampNeg a1) fun m2 => if zix (m2.1 0 0) 200 then mPut (mu1 m2 2 ((m2.1 0 0)).toNatClampNeg a2) fun m4 => if zix (m4.1 0 0) 200 then mPut (mu1 m4 3 ((m4.1 0 0)).toNatClampNeg a3) fun m6 => if zix (m6.1 0 0) 200 then mPut (mu1 m6 4 ((m6.1 0 0)).toNatClampNeg a4) fun m8 => if zix (m8.1 0 0) 200 then mPut (mu2 m8 5 ((m8.1 0 0)).toNatClampNeg a5) fun m10 => if zix (m10.1 0 0) 200 then mPut (mu1 m10 6 ((m10.1 0 0)).toNatClampNeg a6) fun m12 => if zix (m12.1 0 0) 200 then mPut (mu1 m12 7 ((m12.1 0 0)).toNatClampNeg a7) fun m14 => if a1 = (11 : Int32) then (if zix (m14.1 0 0) 200 then mPut (mu1 m14 8 ((m14.1 0 0)).toNatClampNeg (1 : Int32)) fun m17 => mPut (mu1 m17 0 0 ((m17.1 0 0) + (1 : Int32))) fun m18 => some (((m18.1 0 0) - (1 : Int32)), m18) else none) else (if a1 = (12 : Int32) then (if zix (m14.1 0 0) 200 then mPut (mu1 m14 8 ((m14.1 0 0)).toNatClampNeg (1 : Int32)) fun m21 => mPut (mu1 m21 0 0 ((m21.1 0 0) + (1 : Int32))) fun m22 => some (((m22.1 0 0) - (1 : Int32)), m22) else none) else (if ¬ a1 = (10 : Int32) then (if ¬ a1 = (16 : Int32) then (if zix (m14.1 0 0) 200 then mPut (mu1 m14 8 ((m14.1 0 0)).toNatClampNeg (0 : Int32)) fun m26 => mPut (mu1 m26 0 0 ((m26.1 0 0) + (1 : Int32))) fun m27 => some (((m27.1 0 0) - (1 : Int32)), m27) else none) else (if zix a3 200 then if (m14.1 8 (a3).toNatClampNeg) = 0 then (if zix (m14.1 0 0) 200 then mPut (mu1 m14 8 ((m14.1 0 0)).toNatClampNeg (0 : Int32)) fun m31 => mPut (mu1 m31 0 0 ((m31.1 0 0) + (1 : Int32))) fun m32 => some (((m32.1 0 0) - (1 : Int32)), m32) else none) else (if a4 = (-1 : Int32) then (if zix (m14.1 0 0) 200 then mPut (mu1 m14 8 ((m14.1 0 0)).toNatClampNeg (1 : Int32)) fun m35 => mPut (mu1 m35 0 0 ((m35.1 0 0) + (1 : Int32))) fun m36 => some (((m36.1 0 0) - (1 : Int32)), m36) else none) else (if zix a4 200 then if (m14.1 8 (a4).toNatClampNeg) = 0 then (if zix (m14.1 0 0) 200 then mPut (mu1 m14 8 ((m14.1 0 0)).toNatClampNeg (0 : Int32)) fun m40 => mPut (mu1 m40 0 0 ((m40.1 0 0) + (1 : Int32))) fun m41 => some (((m41.1 0 0) - (1 : Int32)), m41) else none) else (if zix (m14.1 0 0) 200 then mPut (mu1 m14 8 ((m14.1 0 0)).toNatClampNeg (1 : Int32)) fun m43 => mPut (mu1 m43 0 0 ((m43.1 0 0) + (1 : Int32))) fun m44 => some (((m44.1 0 0) - (1 : Int32)), m44) else none) else none)) else none)) else (if zix a2 200 then if (m14.1 8 (a2).toNatClampNeg) = 0 then (if ¬ a1 = (16 : Int32) then (if zix (m14.1 0 0) 200 then mPut (mu1 m14 8 ((m14.1 0 0)).toNatClampNeg (0 : Int32)) fun m49 => mPut (mu1 m49 0 0 ((m49.1 0 0) + (1 : Int32))) fun m50 => some (((m50.1 0 0) - (1 : Int32)), m50) else none) else (if zix a3 200 then if (m14.1 8 (a3).toNatClampNeg) = 0 then (if zix (m14.1 0 0) 200 then mPut (mu1 m14 8 ((m14.1 0 0)).toNatClampNeg (0 : Int32)) fun m54 => mPut (mu1 m54 0 0 ((m54.1 0 0) + (1 : Int32))) fun m55 => some (((m55.1 0 0) - (1 : Int32)), m55) else none) else (if a4 = (-1 : Int32) then (if zix (m14.1 0 0) 200 then mPut (mu1 m14 8 ((m14.1 0 0)).toNatClampNeg (1 : Int32)) fun m58 => mPut (mu1 m58 0 0 ((m58.1 0 0) + (1 : Int32))) fun m59 => some (((m59.1 0 0) - (1 : Int32)), m59) else none) else (if zix a4 200 then if (m14.1 8 (a4).toNatClampNeg) = 0 then (if zix (m14.1 0 0) 200 then mPut (mu1 m14 8 ((m14.1 0 0)).toNatClampNeg (0 : Int32)) fun m63 => mPut (mu1 m63 0 0 ((m63.1 0 0) + (1 : Int32))) fun m64 => some (((m64.1 0 0) - (1 : Int32)), m64) else none) else (if zix (m14.1 0 0) 200 then mPut (mu1 m14 8 ((m14.1 0 0)).toNatClampNeg (1 : Int32)) fun m66 => mPut (mu1 m66 0 0 ((m66.1 0 0) + (1 : Int32))) fun m67 => some (((m67.1 0 0) - (1 : Int32)), m67) else none) else none)) else none)) else (if zix a3 200 then if ¬ (m14.1 8 (a3).toNatClampNeg) = 0 then (if zix (m14.1 0 0) 200 then mPut (mu1 m14 8 ((m14.1 0 0)).toNatClampNeg (1 : Int32)) fun m71 => mPut (mu1 m71 0 0 ((m71.1 0 0) + (1 : Int32))) fun m72 => some (((m72.1 0 0) - (1 : Int32)), m72) else none) else (if ¬ a1 = (16 : Int32) then (if zix (m14.1 0 0) 200 then mPut (mu1 m14 8 ((m14.1 0 0)).toNatClampNeg (0 : Int32)) fun m75 => mPut (mu1 m75 0 0 ((m75.1 0 0) + (1 : Int32))) fun m76 => some (((m76.1 0 0) - (1 : Int32)), m76) else none) else (if zix a3 200 then if (m14.1 8 (a3).toNatClampNeg) = 0 then (if zix (m14.1 0 0) 200 then mPut (mu1 m14 8 ((m14.1 0 0)).toNatClampNeg (0 : Int32)) fun m80 => mPut (mu1 m80 0 0 ((m80.1 0 0) + (1 : Int32))) fun m81 => some (((m81.1 0 0) - (1 : Int32)), m81) else none) else (if a4 = (-1 : Int32) then (if zix (m14.1 0 0) 200 then mPut (mu1 m14 8 ((m14.1 0 0)).toNatClampNeg (1 : Int32)) fun m84 => mPut (mu1 m84 0 0 ((m84.1 0 0) + (1 : Int32))) fun m85 => some (((m85.1 0 0) - (1 : Int32)), m85) else none) else (if zix a4 200 then if (m14.1 8 (a4).toNatClampNeg) = 0 then (if zix (m14.1 0 0) 200 then mPut (mu1 m14 8 ((m14.1 0 0)).toNatClampNeg (0 : Int32)) fun m89 => mPut (mu1 m89 0 0 ((m89.1 0 0) + (1 : Int32))) fun m90 => some (((m90.1 0 0) - (1 : Int32)), m90) else none) else (if zix (m14.1 0 0) 200 then mPut (mu1 m14 8 ((m14.1 0 0)).toNatClampNeg (1 : Int32)) fun m92 => mPut (mu1 m92 0 0 ((m92.1 0 0) + (1 : Int32))) fun m93 => some (((m93.1 0 0) - (1 : Int32)), m93) else none) else none)) else none)) else none) else none))) else none else none else none else none else none else none else none
theorem mT_put {S : zS} {d : Nat} {w w0 : zW} {Post : Option Value → zW → Prop} {m0 : Nat} {μ μ2 : mS} {v : Int32} {a1 : Int32} {a2 : Int32} {a3 : Int32} {a4 : Int32} {a5 : Int64} {a6 : Int32} {a7 : Int32} (hk : mF_put a1 a2 a3 a4 a5 a6 a7 μ = some (v, μ2)) (h : mW m0 w0 μ w) (k : ∀ w2, mW m0 w0 μ2 w2 → Post (some (.int v)) w2) : zOk S (d + 0) 71 0 (lv_args 0 [.ref m0, .int a1, .int a2, .int a3, .int a4, .long a5, .int a6, .int a7]) [] w Post := by
  unfold mF_put at hk
  refine zi_l rfl rfl rfl ?_
  refine zm_ga (f := 1) h rfl rfl (by decide) ?_
  refine zi_l rfl rfl rfl ?_
  refine zm_g h rfl rfl rfl rfl ?_
  refine zi_l rfl rfl rfl ?_
  by_cases q1 : zix (μ.1 0 0) 200
  case neg => rw [if_neg q1] at hk; cases hk
  rw [if_pos q1] at hk
  refine zm_st (f := 1) h rfl (by decide) rfl q1 (fun w h => ?_)
  generalize mu1 μ 1 ((μ.1 0 0)).toNatClampNeg a1 = m2 at h hk
  rw [mPut_eq] at hk
  refine zi_l rfl rfl rfl ?_
  refine zm_ga (f := 2) h rfl rfl (by decide) ?_
  refine zi_l rfl rfl rfl ?_
  refine zm_g h rfl rfl rfl rfl ?_
  refine zi_l rfl rfl rfl ?_
  by_cases q3 : zix (m2.1 0 0) 200
  case neg => rw [if_neg q3] at hk; cases hk
  rw [if_pos q3] at hk
  refine zm_st (f := 2) h rfl (by decide) rfl q3 (fun w h => ?_)
  generalize mu1 m2 2 ((m2.1 0 0)).toNatClampNeg a2 = m4 at h hk
  rw [mPut_eq] at hk
  refine zi_l rfl rfl rfl ?_
  refine zm_ga (f := 3) h rfl rfl (by decide) ?_
  refine zi_l rfl rfl rfl ?_
  refine zm_g h rfl rfl rfl rfl ?_
  refine zi_l rfl rfl rfl ?_
  by_cases q5 : zix (m4.1 0 0) 200
  case neg => rw [if_neg q5] at hk; cases hk
  rw [if_pos q5] at hk
  refine zm_st (f := 3) h rfl (by decide) rfl q5 (fun w h => ?_)
  generalize mu1 m4 3 ((m4.1 0 0)).toNatClampNeg a3 = m6 at h hk
  rw [mPut_eq] at hk
  refine zi_l rfl rfl rfl ?_
  refine zm_ga (f := 4) h rfl rfl (by decide) ?_
  refine zi_l rfl rfl rfl ?_
  refine zm_g h rfl rfl rfl rfl ?_
  refine zi_l rfl rfl rfl ?_
  by_cases q7 : zix (m6.1 0 0) 200
  case neg => rw [if_neg q7] at hk; cases hk
  rw [if_pos q7] at hk
  refine zm_st (f := 4) h rfl (by decide) rfl q7 (fun w h => ?_)
  generalize mu1 m6 4 ((m6.1 0 0)).toNatClampNeg a4 = m8 at h hk
  rw [mPut_eq] at hk
  refine zi_l rfl rfl rfl ?_
  refine zm_ga (f := 5) h rfl rfl (by decide) ?_
  refine zi_l rfl rfl rfl ?_
  refine zm_g h rfl rfl rfl rfl ?_
  refine zi_l rfl rfl rfl ?_
  by_cases q9 : zix (m8.1 0 0) 200
  case neg => rw [if_neg q9] at hk; cases hk
  rw [if_pos q9] at hk
  refine zm_sl (f := 5) h rfl (by decide) rfl q9 (fun w h => ?_)
  generalize mu2 m8 5 ((m8.1 0 0)).toNatClampNeg a5 = m10 at h hk
  rw [mPut_eq] at hk
  refine zi_l rfl rfl rfl ?_
  refine zm_ga (f := 6) h rfl rfl (by decide) ?_
  refine zi_l rfl rfl rfl ?_
  refine zm_g h rfl rfl rfl rfl ?_
  refine zi_l rfl rfl rfl ?_
  by_cases q11 : zix (m10.1 0 0) 200
  case neg => rw [if_neg q11] at hk; cases hk
  rw [if_pos q11] at hk
  refine zm_st (f := 6) h rfl (by decide) rfl q11 (fun w h => ?_)
  generalize mu1 m10 6 ((m10.1 0 0)).toNatClampNeg a6 = m12 at h hk
  rw [mPut_eq] at hk
  refine zi_l rfl rfl rfl ?_
  refine zm_ga (f := 7) h rfl rfl (by decide) ?_
  refine zi_l rfl rfl rfl ?_
  refine zm_g h rfl rfl rfl rfl ?_
  refine zi_l rfl rfl rfl ?_
  by_cases q13 : zix (m12.1 0 0) 200
  case neg => rw [if_neg q13] at hk; cases hk
  rw [if_pos q13] at hk
  refine zm_st (f := 7) h rfl (by decide) rfl q13 (fun w h => ?_)
  generalize mu1 m12 7 ((m12.1 0 0)).toNatClampNeg a7 = m14 at h hk
  rw [mPut_eq] at hk
  refine zi_l rfl rfl rfl ?_
  refine zi_a (st' := .int 11 :: _) rfl rfl rfl ?_
  refine zi_ifd rfl rfl rfl (tgt := 141) (by decide) (fun c15 => ?_) (fun c15 => ?_)
  · rw [if_pos c15] at hk
    refine zi_a (st' := .int 1 :: _) rfl rfl rfl ?_
    refine zi_go rfl rfl rfl (tgt := 146) (by decide) ?_
    refine zi_l rfl rfl rfl ?_
    refine zi_l rfl rfl rfl ?_
    refine zm_ga (f := 8) h rfl rfl (by decide) ?_
    refine zi_l rfl rfl rfl ?_
    refine zm_g h rfl rfl rfl rfl ?_
    refine zi_l rfl rfl rfl ?_
    by_cases q16 : zix (m14.1 0 0) 200
    case neg => rw [if_neg q16] at hk; cases hk
    rw [if_pos q16] at hk
    refine zm_sz (f := 8) h rfl (by decide) rfl rfl q16 (fun w h => ?_)
    generalize mu1 m14 8 ((m14.1 0 0)).toNatClampNeg (1 : Int32) = m17 at h hk
    rw [mPut_eq] at hk
    refine zi_l rfl rfl rfl ?_
    refine zi_a rfl rfl rfl ?_
    refine zm_g h rfl rfl rfl rfl ?_
    refine zi_a (st' := .int 1 :: _) rfl rfl rfl ?_
    refine zi_a rfl rfl rfl ?_
    refine zm_p h rfl rfl rfl rfl ⟨rfl, rfl, Or.inl rfl⟩ (fun w h => ?_)
    generalize mu1 m17 0 0 ((m17.1 0 0) + (1 : Int32)) = m18 at h hk
    rw [mPut_eq] at hk
    refine zi_l rfl rfl rfl ?_
    refine zm_g h rfl rfl rfl rfl ?_
    refine zi_a (st' := .int 1 :: _) rfl rfl rfl ?_
    refine zi_a rfl rfl rfl ?_
    cases hk
    exact zi_ri rfl rfl (k w h)
  · rw [if_neg c15] at hk
    refine zi_l rfl rfl rfl ?_
    refine zi_a (st' := .int 12 :: _) rfl rfl rfl ?_
    refine zi_ifd rfl rfl rfl (tgt := 141) (by decide) (fun c19 => ?_) (fun c19 => ?_)
    · rw [if_pos c19] at hk
      refine zi_a (st' := .int 1 :: _) rfl rfl rfl ?_
      refine zi_go rfl rfl rfl (tgt := 146) (by decide) ?_
      refine zi_l rfl rfl rfl ?_
      refine zi_l rfl rfl rfl ?_
      refine zm_ga (f := 8) h rfl rfl (by decide) ?_
      refine zi_l rfl rfl rfl ?_
      refine zm_g h rfl rfl rfl rfl ?_
      refine zi_l rfl rfl rfl ?_
      by_cases q20 : zix (m14.1 0 0) 200
      case neg => rw [if_neg q20] at hk; cases hk
      rw [if_pos q20] at hk
      refine zm_sz (f := 8) h rfl (by decide) rfl rfl q20 (fun w h => ?_)
      generalize mu1 m14 8 ((m14.1 0 0)).toNatClampNeg (1 : Int32) = m21 at h hk
      rw [mPut_eq] at hk
      refine zi_l rfl rfl rfl ?_
      refine zi_a rfl rfl rfl ?_
      refine zm_g h rfl rfl rfl rfl ?_
      refine zi_a (st' := .int 1 :: _) rfl rfl rfl ?_
      refine zi_a rfl rfl rfl ?_
      refine zm_p h rfl rfl rfl rfl ⟨rfl, rfl, Or.inl rfl⟩ (fun w h => ?_)
      generalize mu1 m21 0 0 ((m21.1 0 0) + (1 : Int32)) = m22 at h hk
      rw [mPut_eq] at hk
      refine zi_l rfl rfl rfl ?_
      refine zm_g h rfl rfl rfl rfl ?_
      refine zi_a (st' := .int 1 :: _) rfl rfl rfl ?_
      refine zi_a rfl rfl rfl ?_
      cases hk
      exact zi_ri rfl rfl (k w h)
    · rw [if_neg c19] at hk
      refine zi_l rfl rfl rfl ?_
      refine zi_a (st' := .int 10 :: _) rfl rfl rfl ?_
      refine zi_ifd rfl rfl rfl (tgt := 110) (by decide) (fun c23 => ?_) (fun c23 => ?_)
      · rw [if_pos c23] at hk
        refine zi_l rfl rfl rfl ?_
        refine zi_a (st' := .int 16 :: _) rfl rfl rfl ?_
        refine zi_ifd rfl rfl rfl (tgt := 145) (by decide) (fun c24 => ?_) (fun c24 => ?_)
        · rw [if_pos c24] at hk
          refine zi_a (st' := .int 0 :: _) rfl rfl rfl ?_
          refine zi_l rfl rfl rfl ?_
          refine zi_l rfl rfl rfl ?_
          refine zm_ga (f := 8) h rfl rfl (by decide) ?_
          refine zi_l rfl rfl rfl ?_
          refine zm_g h rfl rfl rfl rfl ?_
          refine zi_l rfl rfl rfl ?_
          by_cases q25 : zix (m14.1 0 0) 200
          case neg => rw [if_neg q25] at hk; cases hk
          rw [if_pos q25] at hk
          refine zm_sz (f := 8) h rfl (by decide) rfl rfl q25 (fun w h => ?_)
          generalize mu1 m14 8 ((m14.1 0 0)).toNatClampNeg (0 : Int32) = m26 at h hk
          rw [mPut_eq] at hk
          refine zi_l rfl rfl rfl ?_
          refine zi_a rfl rfl rfl ?_
          refine zm_g h rfl rfl rfl rfl ?_
          refine zi_a (st' := .int 1 :: _) rfl rfl rfl ?_
          refine zi_a rfl rfl rfl ?_
          refine zm_p h rfl rfl rfl rfl ⟨rfl, rfl, Or.inl rfl⟩ (fun w h => ?_)
          generalize mu1 m26 0 0 ((m26.1 0 0) + (1 : Int32)) = m27 at h hk
          rw [mPut_eq] at hk
          refine zi_l rfl rfl rfl ?_
          refine zm_g h rfl rfl rfl rfl ?_
          refine zi_a (st' := .int 1 :: _) rfl rfl rfl ?_
          refine zi_a rfl rfl rfl ?_
          cases hk
          exact zi_ri rfl rfl (k w h)
        · rw [if_neg c24] at hk
          refine zi_l rfl rfl rfl ?_
          refine zm_ga (f := 8) h rfl rfl (by decide) ?_
          refine zi_l rfl rfl rfl ?_
          by_cases q28 : zix a3 200
          case neg => rw [if_neg q28] at hk; cases hk
          rw [if_pos q28] at hk
          refine zm_lz (f := 8) h rfl (by decide) rfl q28 ?_
          refine zi_ifd rfl rfl rfl (tgt := 145) (by decide) (fun c29 => ?_) (fun c29 => ?_)
          · rw [if_pos c29] at hk
            refine zi_a (st' := .int 0 :: _) rfl rfl rfl ?_
            refine zi_l rfl rfl rfl ?_
            refine zi_l rfl rfl rfl ?_
            refine zm_ga (f := 8) h rfl rfl (by decide) ?_
            refine zi_l rfl rfl rfl ?_
            refine zm_g h rfl rfl rfl rfl ?_
            refine zi_l rfl rfl rfl ?_
            by_cases q30 : zix (m14.1 0 0) 200
            case neg => rw [if_neg q30] at hk; cases hk
            rw [if_pos q30] at hk
            refine zm_sz (f := 8) h rfl (by decide) rfl rfl q30 (fun w h => ?_)
            generalize mu1 m14 8 ((m14.1 0 0)).toNatClampNeg (0 : Int32) = m31 at h hk
            rw [mPut_eq] at hk
            refine zi_l rfl rfl rfl ?_
            refine zi_a rfl rfl rfl ?_
            refine zm_g h rfl rfl rfl rfl ?_
            refine zi_a (st' := .int 1 :: _) rfl rfl rfl ?_
            refine zi_a rfl rfl rfl ?_
            refine zm_p h rfl rfl rfl rfl ⟨rfl, rfl, Or.inl rfl⟩ (fun w h => ?_)
            generalize mu1 m31 0 0 ((m31.1 0 0) + (1 : Int32)) = m32 at h hk
            rw [mPut_eq] at hk
            refine zi_l rfl rfl rfl ?_
            refine zm_g h rfl rfl rfl rfl ?_
            refine zi_a (st' := .int 1 :: _) rfl rfl rfl ?_
            refine zi_a rfl rfl rfl ?_
            cases hk
            exact zi_ri rfl rfl (k w h)
          · rw [if_neg c29] at hk
            refine zi_l rfl rfl rfl ?_
            refine zi_a (st' := .int (-1) :: _) rfl rfl rfl ?_
            refine zi_ifd rfl rfl rfl (tgt := 141) (by decide) (fun c33 => ?_) (fun c33 => ?_)
            · rw [if_pos c33] at hk
              refine zi_a (st' := .int 1 :: _) rfl rfl rfl ?_
              refine zi_go rfl rfl rfl (tgt := 146) (by decide) ?_
              refine zi_l rfl rfl rfl ?_
              refine zi_l rfl rfl rfl ?_
              refine zm_ga (f := 8) h rfl rfl (by decide) ?_
              refine zi_l rfl rfl rfl ?_
              refine zm_g h rfl rfl rfl rfl ?_
              refine zi_l rfl rfl rfl ?_
              by_cases q34 : zix (m14.1 0 0) 200
              case neg => rw [if_neg q34] at hk; cases hk
              rw [if_pos q34] at hk
              refine zm_sz (f := 8) h rfl (by decide) rfl rfl q34 (fun w h => ?_)
              generalize mu1 m14 8 ((m14.1 0 0)).toNatClampNeg (1 : Int32) = m35 at h hk
              rw [mPut_eq] at hk
              refine zi_l rfl rfl rfl ?_
              refine zi_a rfl rfl rfl ?_
              refine zm_g h rfl rfl rfl rfl ?_
              refine zi_a (st' := .int 1 :: _) rfl rfl rfl ?_
              refine zi_a rfl rfl rfl ?_
              refine zm_p h rfl rfl rfl rfl ⟨rfl, rfl, Or.inl rfl⟩ (fun w h => ?_)
              generalize mu1 m35 0 0 ((m35.1 0 0) + (1 : Int32)) = m36 at h hk
              rw [mPut_eq] at hk
              refine zi_l rfl rfl rfl ?_
              refine zm_g h rfl rfl rfl rfl ?_
              refine zi_a (st' := .int 1 :: _) rfl rfl rfl ?_
              refine zi_a rfl rfl rfl ?_
              cases hk
              exact zi_ri rfl rfl (k w h)
            · rw [if_neg c33] at hk
              refine zi_l rfl rfl rfl ?_
              refine zm_ga (f := 8) h rfl rfl (by decide) ?_
              refine zi_l rfl rfl rfl ?_
              by_cases q37 : zix a4 200
              case neg => rw [if_neg q37] at hk; cases hk
              rw [if_pos q37] at hk
              refine zm_lz (f := 8) h rfl (by decide) rfl q37 ?_
              refine zi_ifd rfl rfl rfl (tgt := 145) (by decide) (fun c38 => ?_) (fun c38 => ?_)
              · rw [if_pos c38] at hk
                refine zi_a (st' := .int 0 :: _) rfl rfl rfl ?_
                refine zi_l rfl rfl rfl ?_
                refine zi_l rfl rfl rfl ?_
                refine zm_ga (f := 8) h rfl rfl (by decide) ?_
                refine zi_l rfl rfl rfl ?_
                refine zm_g h rfl rfl rfl rfl ?_
                refine zi_l rfl rfl rfl ?_
                by_cases q39 : zix (m14.1 0 0) 200
                case neg => rw [if_neg q39] at hk; cases hk
                rw [if_pos q39] at hk
                refine zm_sz (f := 8) h rfl (by decide) rfl rfl q39 (fun w h => ?_)
                generalize mu1 m14 8 ((m14.1 0 0)).toNatClampNeg (0 : Int32) = m40 at h hk
                rw [mPut_eq] at hk
                refine zi_l rfl rfl rfl ?_
                refine zi_a rfl rfl rfl ?_
                refine zm_g h rfl rfl rfl rfl ?_
                refine zi_a (st' := .int 1 :: _) rfl rfl rfl ?_
                refine zi_a rfl rfl rfl ?_
                refine zm_p h rfl rfl rfl rfl ⟨rfl, rfl, Or.inl rfl⟩ (fun w h => ?_)
                generalize mu1 m40 0 0 ((m40.1 0 0) + (1 : Int32)) = m41 at h hk
                rw [mPut_eq] at hk
                refine zi_l rfl rfl rfl ?_
                refine zm_g h rfl rfl rfl rfl ?_
                refine zi_a (st' := .int 1 :: _) rfl rfl rfl ?_
                refine zi_a rfl rfl rfl ?_
                cases hk
                exact zi_ri rfl rfl (k w h)
              · rw [if_neg c38] at hk
                refine zi_a (st' := .int 1 :: _) rfl rfl rfl ?_
                refine zi_go rfl rfl rfl (tgt := 146) (by decide) ?_
                refine zi_l rfl rfl rfl ?_
                refine zi_l rfl rfl rfl ?_
                refine zm_ga (f := 8) h rfl rfl (by decide) ?_
                refine zi_l rfl rfl rfl ?_
                refine zm_g h rfl rfl rfl rfl ?_
                refine zi_l rfl rfl rfl ?_
                by_cases q42 : zix (m14.1 0 0) 200
                case neg => rw [if_neg q42] at hk; cases hk
                rw [if_pos q42] at hk
                refine zm_sz (f := 8) h rfl (by decide) rfl rfl q42 (fun w h => ?_)
                generalize mu1 m14 8 ((m14.1 0 0)).toNatClampNeg (1 : Int32) = m43 at h hk
                rw [mPut_eq] at hk
                refine zi_l rfl rfl rfl ?_
                refine zi_a rfl rfl rfl ?_
                refine zm_g h rfl rfl rfl rfl ?_
                refine zi_a (st' := .int 1 :: _) rfl rfl rfl ?_
                refine zi_a rfl rfl rfl ?_
                refine zm_p h rfl rfl rfl rfl ⟨rfl, rfl, Or.inl rfl⟩ (fun w h => ?_)
                generalize mu1 m43 0 0 ((m43.1 0 0) + (1 : Int32)) = m44 at h hk
                rw [mPut_eq] at hk
                refine zi_l rfl rfl rfl ?_
                refine zm_g h rfl rfl rfl rfl ?_
                refine zi_a (st' := .int 1 :: _) rfl rfl rfl ?_
                refine zi_a rfl rfl rfl ?_
                cases hk
                exact zi_ri rfl rfl (k w h)
      · rw [if_neg c23] at hk
        refine zi_l rfl rfl rfl ?_
        refine zm_ga (f := 8) h rfl rfl (by decide) ?_
        refine zi_l rfl rfl rfl ?_
        by_cases q45 : zix a2 200
        case neg => rw [if_neg q45] at hk; cases hk
        rw [if_pos q45] at hk
        refine zm_lz (f := 8) h rfl (by decide) rfl q45 ?_
        refine zi_ifd rfl rfl rfl (tgt := 110) (by decide) (fun c46 => ?_) (fun c46 => ?_)
        · rw [if_pos c46] at hk
          refine zi_l rfl rfl rfl ?_
          refine zi_a (st' := .int 16 :: _) rfl rfl rfl ?_
          refine zi_ifd rfl rfl rfl (tgt := 145) (by decide) (fun c47 => ?_) (fun c47 => ?_)
          · rw [if_pos c47] at hk
            refine zi_a (st' := .int 0 :: _) rfl rfl rfl ?_
            refine zi_l rfl rfl rfl ?_
            refine zi_l rfl rfl rfl ?_
            refine zm_ga (f := 8) h rfl rfl (by decide) ?_
            refine zi_l rfl rfl rfl ?_
            refine zm_g h rfl rfl rfl rfl ?_
            refine zi_l rfl rfl rfl ?_
            by_cases q48 : zix (m14.1 0 0) 200
            case neg => rw [if_neg q48] at hk; cases hk
            rw [if_pos q48] at hk
            refine zm_sz (f := 8) h rfl (by decide) rfl rfl q48 (fun w h => ?_)
            generalize mu1 m14 8 ((m14.1 0 0)).toNatClampNeg (0 : Int32) = m49 at h hk
            rw [mPut_eq] at hk
            refine zi_l rfl rfl rfl ?_
            refine zi_a rfl rfl rfl ?_
            refine zm_g h rfl rfl rfl rfl ?_
            refine zi_a (st' := .int 1 :: _) rfl rfl rfl ?_
            refine zi_a rfl rfl rfl ?_
            refine zm_p h rfl rfl rfl rfl ⟨rfl, rfl, Or.inl rfl⟩ (fun w h => ?_)
            generalize mu1 m49 0 0 ((m49.1 0 0) + (1 : Int32)) = m50 at h hk
            rw [mPut_eq] at hk
            refine zi_l rfl rfl rfl ?_
            refine zm_g h rfl rfl rfl rfl ?_
            refine zi_a (st' := .int 1 :: _) rfl rfl rfl ?_
            refine zi_a rfl rfl rfl ?_
            cases hk
            exact zi_ri rfl rfl (k w h)
          · rw [if_neg c47] at hk
            refine zi_l rfl rfl rfl ?_
            refine zm_ga (f := 8) h rfl rfl (by decide) ?_
            refine zi_l rfl rfl rfl ?_
            by_cases q51 : zix a3 200
            case neg => rw [if_neg q51] at hk; cases hk
            rw [if_pos q51] at hk
            refine zm_lz (f := 8) h rfl (by decide) rfl q51 ?_
            refine zi_ifd rfl rfl rfl (tgt := 145) (by decide) (fun c52 => ?_) (fun c52 => ?_)
            · rw [if_pos c52] at hk
              refine zi_a (st' := .int 0 :: _) rfl rfl rfl ?_
              refine zi_l rfl rfl rfl ?_
              refine zi_l rfl rfl rfl ?_
              refine zm_ga (f := 8) h rfl rfl (by decide) ?_
              refine zi_l rfl rfl rfl ?_
              refine zm_g h rfl rfl rfl rfl ?_
              refine zi_l rfl rfl rfl ?_
              by_cases q53 : zix (m14.1 0 0) 200
              case neg => rw [if_neg q53] at hk; cases hk
              rw [if_pos q53] at hk
              refine zm_sz (f := 8) h rfl (by decide) rfl rfl q53 (fun w h => ?_)
              generalize mu1 m14 8 ((m14.1 0 0)).toNatClampNeg (0 : Int32) = m54 at h hk
              rw [mPut_eq] at hk
              refine zi_l rfl rfl rfl ?_
              refine zi_a rfl rfl rfl ?_
              refine zm_g h rfl rfl rfl rfl ?_
              refine zi_a (st' := .int 1 :: _) rfl rfl rfl ?_
              refine zi_a rfl rfl rfl ?_
              refine zm_p h rfl rfl rfl rfl ⟨rfl, rfl, Or.inl rfl⟩ (fun w h => ?_)
              generalize mu1 m54 0 0 ((m54.1 0 0) + (1 : Int32)) = m55 at h hk
              rw [mPut_eq] at hk
              refine zi_l rfl rfl rfl ?_
              refine zm_g h rfl rfl rfl rfl ?_
              refine zi_a (st' := .int 1 :: _) rfl rfl rfl ?_
              refine zi_a rfl rfl rfl ?_
              cases hk
              exact zi_ri rfl rfl (k w h)
            · rw [if_neg c52] at hk
              refine zi_l rfl rfl rfl ?_
              refine zi_a (st' := .int (-1) :: _) rfl rfl rfl ?_
              refine zi_ifd rfl rfl rfl (tgt := 141) (by decide) (fun c56 => ?_) (fun c56 => ?_)
              · rw [if_pos c56] at hk
                refine zi_a (st' := .int 1 :: _) rfl rfl rfl ?_
                refine zi_go rfl rfl rfl (tgt := 146) (by decide) ?_
                refine zi_l rfl rfl rfl ?_
                refine zi_l rfl rfl rfl ?_
                refine zm_ga (f := 8) h rfl rfl (by decide) ?_
                refine zi_l rfl rfl rfl ?_
                refine zm_g h rfl rfl rfl rfl ?_
                refine zi_l rfl rfl rfl ?_
                by_cases q57 : zix (m14.1 0 0) 200
                case neg => rw [if_neg q57] at hk; cases hk
                rw [if_pos q57] at hk
                refine zm_sz (f := 8) h rfl (by decide) rfl rfl q57 (fun w h => ?_)
                generalize mu1 m14 8 ((m14.1 0 0)).toNatClampNeg (1 : Int32) = m58 at h hk
                rw [mPut_eq] at hk
                refine zi_l rfl rfl rfl ?_
                refine zi_a rfl rfl rfl ?_
                refine zm_g h rfl rfl rfl rfl ?_
                refine zi_a (st' := .int 1 :: _) rfl rfl rfl ?_
                refine zi_a rfl rfl rfl ?_
                refine zm_p h rfl rfl rfl rfl ⟨rfl, rfl, Or.inl rfl⟩ (fun w h => ?_)
                generalize mu1 m58 0 0 ((m58.1 0 0) + (1 : Int32)) = m59 at h hk
                rw [mPut_eq] at hk
                refine zi_l rfl rfl rfl ?_
                refine zm_g h rfl rfl rfl rfl ?_
                refine zi_a (st' := .int 1 :: _) rfl rfl rfl ?_
                refine zi_a rfl rfl rfl ?_
                cases hk
                exact zi_ri rfl rfl (k w h)
              · rw [if_neg c56] at hk
                refine zi_l rfl rfl rfl ?_
                refine zm_ga (f := 8) h rfl rfl (by decide) ?_
                refine zi_l rfl rfl rfl ?_
                by_cases q60 : zix a4 200
                case neg => rw [if_neg q60] at hk; cases hk
                rw [if_pos q60] at hk
                refine zm_lz (f := 8) h rfl (by decide) rfl q60 ?_
                refine zi_ifd rfl rfl rfl (tgt := 145) (by decide) (fun c61 => ?_) (fun c61 => ?_)
                · rw [if_pos c61] at hk
                  refine zi_a (st' := .int 0 :: _) rfl rfl rfl ?_
                  refine zi_l rfl rfl rfl ?_
                  refine zi_l rfl rfl rfl ?_
                  refine zm_ga (f := 8) h rfl rfl (by decide) ?_
                  refine zi_l rfl rfl rfl ?_
                  refine zm_g h rfl rfl rfl rfl ?_
                  refine zi_l rfl rfl rfl ?_
                  by_cases q62 : zix (m14.1 0 0) 200
                  case neg => rw [if_neg q62] at hk; cases hk
                  rw [if_pos q62] at hk
                  refine zm_sz (f := 8) h rfl (by decide) rfl rfl q62 (fun w h => ?_)
                  generalize mu1 m14 8 ((m14.1 0 0)).toNatClampNeg (0 : Int32) = m63 at h hk
                  rw [mPut_eq] at hk
                  refine zi_l rfl rfl rfl ?_
                  refine zi_a rfl rfl rfl ?_
                  refine zm_g h rfl rfl rfl rfl ?_
                  refine zi_a (st' := .int 1 :: _) rfl rfl rfl ?_
                  refine zi_a rfl rfl rfl ?_
                  refine zm_p h rfl rfl rfl rfl ⟨rfl, rfl, Or.inl rfl⟩ (fun w h => ?_)
                  generalize mu1 m63 0 0 ((m63.1 0 0) + (1 : Int32)) = m64 at h hk
                  rw [mPut_eq] at hk
                  refine zi_l rfl rfl rfl ?_
                  refine zm_g h rfl rfl rfl rfl ?_
                  refine zi_a (st' := .int 1 :: _) rfl rfl rfl ?_
                  refine zi_a rfl rfl rfl ?_
                  cases hk
                  exact zi_ri rfl rfl (k w h)
                · rw [if_neg c61] at hk
                  refine zi_a (st' := .int 1 :: _) rfl rfl rfl ?_
                  refine zi_go rfl rfl rfl (tgt := 146) (by decide) ?_
                  refine zi_l rfl rfl rfl ?_
                  refine zi_l rfl rfl rfl ?_
                  refine zm_ga (f := 8) h rfl rfl (by decide) ?_
                  refine zi_l rfl rfl rfl ?_
                  refine zm_g h rfl rfl rfl rfl ?_
                  refine zi_l rfl rfl rfl ?_
                  by_cases q65 : zix (m14.1 0 0) 200
                  case neg => rw [if_neg q65] at hk; cases hk
                  rw [if_pos q65] at hk
                  refine zm_sz (f := 8) h rfl (by decide) rfl rfl q65 (fun w h => ?_)
                  generalize mu1 m14 8 ((m14.1 0 0)).toNatClampNeg (1 : Int32) = m66 at h hk
                  rw [mPut_eq] at hk
                  refine zi_l rfl rfl rfl ?_
                  refine zi_a rfl rfl rfl ?_
                  refine zm_g h rfl rfl rfl rfl ?_
                  refine zi_a (st' := .int 1 :: _) rfl rfl rfl ?_
                  refine zi_a rfl rfl rfl ?_
                  refine zm_p h rfl rfl rfl rfl ⟨rfl, rfl, Or.inl rfl⟩ (fun w h => ?_)
                  generalize mu1 m66 0 0 ((m66.1 0 0) + (1 : Int32)) = m67 at h hk
                  rw [mPut_eq] at hk
                  refine zi_l rfl rfl rfl ?_
                  refine zm_g h rfl rfl rfl rfl ?_
                  refine zi_a (st' := .int 1 :: _) rfl rfl rfl ?_
                  refine zi_a rfl rfl rfl ?_
                  cases hk
                  exact zi_ri rfl rfl (k w h)
        · rw [if_neg c46] at hk
          refine zi_l rfl rfl rfl ?_
          refine zm_ga (f := 8) h rfl rfl (by decide) ?_
          refine zi_l rfl rfl rfl ?_
          by_cases q68 : zix a3 200
          case neg => rw [if_neg q68] at hk; cases hk
          rw [if_pos q68] at hk
          refine zm_lz (f := 8) h rfl (by decide) rfl q68 ?_
          refine zi_ifd rfl rfl rfl (tgt := 141) (by decide) (fun c69 => ?_) (fun c69 => ?_)
          · rw [if_pos c69] at hk
            refine zi_a (st' := .int 1 :: _) rfl rfl rfl ?_
            refine zi_go rfl rfl rfl (tgt := 146) (by decide) ?_
            refine zi_l rfl rfl rfl ?_
            refine zi_l rfl rfl rfl ?_
            refine zm_ga (f := 8) h rfl rfl (by decide) ?_
            refine zi_l rfl rfl rfl ?_
            refine zm_g h rfl rfl rfl rfl ?_
            refine zi_l rfl rfl rfl ?_
            by_cases q70 : zix (m14.1 0 0) 200
            case neg => rw [if_neg q70] at hk; cases hk
            rw [if_pos q70] at hk
            refine zm_sz (f := 8) h rfl (by decide) rfl rfl q70 (fun w h => ?_)
            generalize mu1 m14 8 ((m14.1 0 0)).toNatClampNeg (1 : Int32) = m71 at h hk
            rw [mPut_eq] at hk
            refine zi_l rfl rfl rfl ?_
            refine zi_a rfl rfl rfl ?_
            refine zm_g h rfl rfl rfl rfl ?_
            refine zi_a (st' := .int 1 :: _) rfl rfl rfl ?_
            refine zi_a rfl rfl rfl ?_
            refine zm_p h rfl rfl rfl rfl ⟨rfl, rfl, Or.inl rfl⟩ (fun w h => ?_)
            generalize mu1 m71 0 0 ((m71.1 0 0) + (1 : Int32)) = m72 at h hk
            rw [mPut_eq] at hk
            refine zi_l rfl rfl rfl ?_
            refine zm_g h rfl rfl rfl rfl ?_
            refine zi_a (st' := .int 1 :: _) rfl rfl rfl ?_
            refine zi_a rfl rfl rfl ?_
            cases hk
            exact zi_ri rfl rfl (k w h)
          · rw [if_neg c69] at hk
            refine zi_l rfl rfl rfl ?_
            refine zi_a (st' := .int 16 :: _) rfl rfl rfl ?_
            refine zi_ifd rfl rfl rfl (tgt := 145) (by decide) (fun c73 => ?_) (fun c73 => ?_)
            · rw [if_pos c73] at hk
              refine zi_a (st' := .int 0 :: _) rfl rfl rfl ?_
              refine zi_l rfl rfl rfl ?_
              refine zi_l rfl rfl rfl ?_
              refine zm_ga (f := 8) h rfl rfl (by decide) ?_
              refine zi_l rfl rfl rfl ?_
              refine zm_g h rfl rfl rfl rfl ?_
              refine zi_l rfl rfl rfl ?_
              by_cases q74 : zix (m14.1 0 0) 200
              case neg => rw [if_neg q74] at hk; cases hk
              rw [if_pos q74] at hk
              refine zm_sz (f := 8) h rfl (by decide) rfl rfl q74 (fun w h => ?_)
              generalize mu1 m14 8 ((m14.1 0 0)).toNatClampNeg (0 : Int32) = m75 at h hk
              rw [mPut_eq] at hk
              refine zi_l rfl rfl rfl ?_
              refine zi_a rfl rfl rfl ?_
              refine zm_g h rfl rfl rfl rfl ?_
              refine zi_a (st' := .int 1 :: _) rfl rfl rfl ?_
              refine zi_a rfl rfl rfl ?_
              refine zm_p h rfl rfl rfl rfl ⟨rfl, rfl, Or.inl rfl⟩ (fun w h => ?_)
              generalize mu1 m75 0 0 ((m75.1 0 0) + (1 : Int32)) = m76 at h hk
              rw [mPut_eq] at hk
              refine zi_l rfl rfl rfl ?_
              refine zm_g h rfl rfl rfl rfl ?_
              refine zi_a (st' := .int 1 :: _) rfl rfl rfl ?_
              refine zi_a rfl rfl rfl ?_
              cases hk
              exact zi_ri rfl rfl (k w h)
            · rw [if_neg c73] at hk
              refine zi_l rfl rfl rfl ?_
              refine zm_ga (f := 8) h rfl rfl (by decide) ?_
              refine zi_l rfl rfl rfl ?_
              by_cases q77 : zix a3 200
              case neg => rw [if_neg q77] at hk; cases hk
              rw [if_pos q77] at hk
              refine zm_lz (f := 8) h rfl (by decide) rfl q77 ?_
              refine zi_ifd rfl rfl rfl (tgt := 145) (by decide) (fun c78 => ?_) (fun c78 => ?_)
              · rw [if_pos c78] at hk
                refine zi_a (st' := .int 0 :: _) rfl rfl rfl ?_
                refine zi_l rfl rfl rfl ?_
                refine zi_l rfl rfl rfl ?_
                refine zm_ga (f := 8) h rfl rfl (by decide) ?_
                refine zi_l rfl rfl rfl ?_
                refine zm_g h rfl rfl rfl rfl ?_
                refine zi_l rfl rfl rfl ?_
                by_cases q79 : zix (m14.1 0 0) 200
                case neg => rw [if_neg q79] at hk; cases hk
                rw [if_pos q79] at hk
                refine zm_sz (f := 8) h rfl (by decide) rfl rfl q79 (fun w h => ?_)
                generalize mu1 m14 8 ((m14.1 0 0)).toNatClampNeg (0 : Int32) = m80 at h hk
                rw [mPut_eq] at hk
                refine zi_l rfl rfl rfl ?_
                refine zi_a rfl rfl rfl ?_
                refine zm_g h rfl rfl rfl rfl ?_
                refine zi_a (st' := .int 1 :: _) rfl rfl rfl ?_
                refine zi_a rfl rfl rfl ?_
                refine zm_p h rfl rfl rfl rfl ⟨rfl, rfl, Or.inl rfl⟩ (fun w h => ?_)
                generalize mu1 m80 0 0 ((m80.1 0 0) + (1 : Int32)) = m81 at h hk
                rw [mPut_eq] at hk
                refine zi_l rfl rfl rfl ?_
                refine zm_g h rfl rfl rfl rfl ?_
                refine zi_a (st' := .int 1 :: _) rfl rfl rfl ?_
                refine zi_a rfl rfl rfl ?_
                cases hk
                exact zi_ri rfl rfl (k w h)
              · rw [if_neg c78] at hk
                refine zi_l rfl rfl rfl ?_
                refine zi_a (st' := .int (-1) :: _) rfl rfl rfl ?_
                refine zi_ifd rfl rfl rfl (tgt := 141) (by decide) (fun c82 => ?_) (fun c82 => ?_)
                · rw [if_pos c82] at hk
                  refine zi_a (st' := .int 1 :: _) rfl rfl rfl ?_
                  refine zi_go rfl rfl rfl (tgt := 146) (by decide) ?_
                  refine zi_l rfl rfl rfl ?_
                  refine zi_l rfl rfl rfl ?_
                  refine zm_ga (f := 8) h rfl rfl (by decide) ?_
                  refine zi_l rfl rfl rfl ?_
                  refine zm_g h rfl rfl rfl rfl ?_
                  refine zi_l rfl rfl rfl ?_
                  by_cases q83 : zix (m14.1 0 0) 200
                  case neg => rw [if_neg q83] at hk; cases hk
                  rw [if_pos q83] at hk
                  refine zm_sz (f := 8) h rfl (by decide) rfl rfl q83 (fun w h => ?_)
                  generalize mu1 m14 8 ((m14.1 0 0)).toNatClampNeg (1 : Int32) = m84 at h hk
                  rw [mPut_eq] at hk
                  refine zi_l rfl rfl rfl ?_
                  refine zi_a rfl rfl rfl ?_
                  refine zm_g h rfl rfl rfl rfl ?_
                  refine zi_a (st' := .int 1 :: _) rfl rfl rfl ?_
                  refine zi_a rfl rfl rfl ?_
                  refine zm_p h rfl rfl rfl rfl ⟨rfl, rfl, Or.inl rfl⟩ (fun w h => ?_)
                  generalize mu1 m84 0 0 ((m84.1 0 0) + (1 : Int32)) = m85 at h hk
                  rw [mPut_eq] at hk
                  refine zi_l rfl rfl rfl ?_
                  refine zm_g h rfl rfl rfl rfl ?_
                  refine zi_a (st' := .int 1 :: _) rfl rfl rfl ?_
                  refine zi_a rfl rfl rfl ?_
                  cases hk
                  exact zi_ri rfl rfl (k w h)
                · rw [if_neg c82] at hk
                  refine zi_l rfl rfl rfl ?_
                  refine zm_ga (f := 8) h rfl rfl (by decide) ?_
                  refine zi_l rfl rfl rfl ?_
                  by_cases q86 : zix a4 200
                  case neg => rw [if_neg q86] at hk; cases hk
                  rw [if_pos q86] at hk
                  refine zm_lz (f := 8) h rfl (by decide) rfl q86 ?_
                  refine zi_ifd rfl rfl rfl (tgt := 145) (by decide) (fun c87 => ?_) (fun c87 => ?_)
                  · rw [if_pos c87] at hk
                    refine zi_a (st' := .int 0 :: _) rfl rfl rfl ?_
                    refine zi_l rfl rfl rfl ?_
                    refine zi_l rfl rfl rfl ?_
                    refine zm_ga (f := 8) h rfl rfl (by decide) ?_
                    refine zi_l rfl rfl rfl ?_
                    refine zm_g h rfl rfl rfl rfl ?_
                    refine zi_l rfl rfl rfl ?_
                    by_cases q88 : zix (m14.1 0 0) 200
                    case neg => rw [if_neg q88] at hk; cases hk
                    rw [if_pos q88] at hk
                    refine zm_sz (f := 8) h rfl (by decide) rfl rfl q88 (fun w h => ?_)
                    generalize mu1 m14 8 ((m14.1 0 0)).toNatClampNeg (0 : Int32) = m89 at h hk
                    rw [mPut_eq] at hk
                    refine zi_l rfl rfl rfl ?_
                    refine zi_a rfl rfl rfl ?_
                    refine zm_g h rfl rfl rfl rfl ?_
                    refine zi_a (st' := .int 1 :: _) rfl rfl rfl ?_
                    refine zi_a rfl rfl rfl ?_
                    refine zm_p h rfl rfl rfl rfl ⟨rfl, rfl, Or.inl rfl⟩ (fun w h => ?_)
                    generalize mu1 m89 0 0 ((m89.1 0 0) + (1 : Int32)) = m90 at h hk
                    rw [mPut_eq] at hk
                    refine zi_l rfl rfl rfl ?_
                    refine zm_g h rfl rfl rfl rfl ?_
                    refine zi_a (st' := .int 1 :: _) rfl rfl rfl ?_
                    refine zi_a rfl rfl rfl ?_
                    cases hk
                    exact zi_ri rfl rfl (k w h)
                  · rw [if_neg c87] at hk
                    refine zi_a (st' := .int 1 :: _) rfl rfl rfl ?_
                    refine zi_go rfl rfl rfl (tgt := 146) (by decide) ?_
                    refine zi_l rfl rfl rfl ?_
                    refine zi_l rfl rfl rfl ?_
                    refine zm_ga (f := 8) h rfl rfl (by decide) ?_
                    refine zi_l rfl rfl rfl ?_
                    refine zm_g h rfl rfl rfl rfl ?_
                    refine zi_l rfl rfl rfl ?_
                    by_cases q91 : zix (m14.1 0 0) 200
                    case neg => rw [if_neg q91] at hk; cases hk
                    rw [if_pos q91] at hk
                    refine zm_sz (f := 8) h rfl (by decide) rfl rfl q91 (fun w h => ?_)
                    generalize mu1 m14 8 ((m14.1 0 0)).toNatClampNeg (1 : Int32) = m92 at h hk
                    rw [mPut_eq] at hk
                    refine zi_l rfl rfl rfl ?_
                    refine zi_a rfl rfl rfl ?_
                    refine zm_g h rfl rfl rfl rfl ?_
                    refine zi_a (st' := .int 1 :: _) rfl rfl rfl ?_
                    refine zi_a rfl rfl rfl ?_
                    refine zm_p h rfl rfl rfl rfl ⟨rfl, rfl, Or.inl rfl⟩ (fun w h => ?_)
                    generalize mu1 m92 0 0 ((m92.1 0 0) + (1 : Int32)) = m93 at h hk
                    rw [mPut_eq] at hk
                    refine zi_l rfl rfl rfl ?_
                    refine zm_g h rfl rfl rfl rfl ?_
                    refine zi_a (st' := .int 1 :: _) rfl rfl rfl ?_
                    refine zi_a rfl rfl rfl ?_
                    cases hk
                    exact zi_ri rfl rfl (k w h)

def mF_leaf (a1 : Int32) (a2 : Int64) (μ : mS) : Option (Int32 × mS) :=
  if a1 < 0 then (some ((-1 : Int32), μ)) else (if (3 : Int32) < a1 then (some ((-1 : Int32), μ)) else (if a1 = (1 : Int32) then (if (lg_cmp a2 (0 : Int64)) < 0 then (some ((-1 : Int32), μ)) else (if (lg_cmp a2 (15 : Int64)) ≤ 0 then (if ¬ (μ.1 0 0) = (200 : Int32) then (match mF_put ((100 : Int32) + a1) (-1 : Int32) (-1 : Int32) (-1 : Int32) a2 (1 : Int32) (1 : Int32) μ with | none => none | some (v8, μ9) => some (v8, μ9)) else (some ((-2 : Int32), μ))) else (some ((-1 : Int32), μ)))) else (if ¬ a1 = (2 : Int32) then (if ¬ (μ.1 0 0) = (200 : Int32) then (match mF_put ((100 : Int32) + a1) (-1 : Int32) (-1 : Int32) (-1 : Int32) a2 (1 : Int32) (1 : Int32) μ with | none => none | some (v13, μ14) => some (v13, μ14)) else (some ((-2 : Int32), μ))) else (if (lg_cmp a2 (0 : Int64)) < 0 then (some ((-1 : Int32), μ)) else (if (lg_cmp a2 (15 : Int64)) ≤ 0 then (if ¬ (μ.1 0 0) = (200 : Int32) then (match mF_put ((100 : Int32) + a1) (-1 : Int32) (-1 : Int32) (-1 : Int32) a2 (1 : Int32) (1 : Int32) μ with | none => none | some (v19, μ20) => some (v19, μ20)) else (some ((-2 : Int32), μ))) else (some ((-1 : Int32), μ)))))))
theorem mT_leaf {S : zS} {d : Nat} {w w0 : zW} {Post : Option Value → zW → Prop} {m0 : Nat} {μ μ2 : mS} {v : Int32} {a1 : Int32} {a2 : Int64} (hk : mF_leaf a1 a2 μ = some (v, μ2)) (h : mW m0 w0 μ w) (k : ∀ w2, mW m0 w0 μ2 w2 → Post (some (.int v)) w2) : zOk S (d + 1) 70 0 (lv_args 0 [.ref m0, .int a1, .long a2]) [] w Post := by
  unfold mF_leaf at hk
  refine zi_l rfl rfl rfl ?_
  refine zi_ifd rfl rfl rfl (tgt := 33) (by decide) (fun c1 => ?_) (fun c1 => ?_)
  · rw [if_pos c1] at hk
    refine zi_a (st' := .int (-1) :: _) rfl rfl rfl ?_
    cases hk
    exact zi_ri rfl rfl (k w h)
  · rw [if_neg c1] at hk
    refine zi_l rfl rfl rfl ?_
    refine zi_a (st' := .int 3 :: _) rfl rfl rfl ?_
    refine zi_ifd rfl rfl rfl (tgt := 33) (by decide) (fun c2 => ?_) (fun c2 => ?_)
    · rw [if_pos c2] at hk
      refine zi_a (st' := .int (-1) :: _) rfl rfl rfl ?_
      cases hk
      exact zi_ri rfl rfl (k w h)
    · rw [if_neg c2] at hk
      refine zi_l rfl rfl rfl ?_
      refine zi_a (st' := .int 1 :: _) rfl rfl rfl ?_
      refine zi_ifd rfl rfl rfl (tgt := 19) (by decide) (fun c3 => ?_) (fun c3 => ?_)
      · rw [if_pos c3] at hk
        refine zi_l rfl rfl rfl ?_
        refine zi_a (st' := .long 0 :: _) rfl rfl rfl ?_
        refine zi_a rfl rfl rfl ?_
        refine zi_ifd rfl rfl rfl (tgt := 33) (by decide) (fun c4 => ?_) (fun c4 => ?_)
        · rw [if_pos c4] at hk
          refine zi_a (st' := .int (-1) :: _) rfl rfl rfl ?_
          cases hk
          exact zi_ri rfl rfl (k w h)
        · rw [if_neg c4] at hk
          refine zi_l rfl rfl rfl ?_
          refine zi_c2 rfl rfl ?_
          refine zi_a rfl rfl rfl ?_
          refine zi_ifd rfl rfl rfl (tgt := 35) (by decide) (fun c5 => ?_) (fun c5 => ?_)
          · rw [if_pos c5] at hk
            refine zi_l rfl rfl rfl ?_
            refine zm_g h rfl rfl rfl rfl ?_
            refine zi_a (st' := .int 200 :: _) rfl rfl rfl ?_
            refine zi_ifd rfl rfl rfl (tgt := 48) (by decide) (fun c6 => ?_) (fun c6 => ?_)
            · rw [if_pos c6] at hk
              refine zi_l rfl rfl rfl ?_
              refine zi_a (st' := .int 100 :: _) rfl rfl rfl ?_
              refine zi_l rfl rfl rfl ?_
              refine zi_a rfl rfl rfl ?_
              refine zi_a (st' := .int (-1) :: _) rfl rfl rfl ?_
              refine zi_a (st' := .int (-1) :: _) rfl rfl rfl ?_
              refine zi_a (st' := .int (-1) :: _) rfl rfl rfl ?_
              refine zi_l rfl rfl rfl ?_
              refine zi_a (st' := .int 1 :: _) rfl rfl rfl ?_
              refine zi_a (st' := .int 1 :: _) rfl rfl rfl ?_
              cases c7 : mF_put ((100 : Int32) + a1) (-1 : Int32) (-1 : Int32) (-1 : Int32) a2 (1 : Int32) (1 : Int32) μ with
              | none => rw [c7] at hk; cases hk
              | some q =>
                obtain ⟨v8, μ9⟩ := q
                rw [c7] at hk
                dsimp only at hk
                refine zm_c h rfl rfl rfl rfl rfl rfl (mT_put c7 h (fun w h => ?_))
                cases hk
                exact zi_ri rfl rfl (k w h)
            · rw [if_neg c6] at hk
              refine zi_a (st' := .int (-2) :: _) rfl rfl rfl ?_
              cases hk
              exact zi_ri rfl rfl (k w h)
          · rw [if_neg c5] at hk
            refine zi_a (st' := .int (-1) :: _) rfl rfl rfl ?_
            cases hk
            exact zi_ri rfl rfl (k w h)
      · rw [if_neg c3] at hk
        refine zi_l rfl rfl rfl ?_
        refine zi_a (st' := .int 2 :: _) rfl rfl rfl ?_
        refine zi_ifd rfl rfl rfl (tgt := 35) (by decide) (fun c10 => ?_) (fun c10 => ?_)
        · rw [if_pos c10] at hk
          refine zi_l rfl rfl rfl ?_
          refine zm_g h rfl rfl rfl rfl ?_
          refine zi_a (st' := .int 200 :: _) rfl rfl rfl ?_
          refine zi_ifd rfl rfl rfl (tgt := 48) (by decide) (fun c11 => ?_) (fun c11 => ?_)
          · rw [if_pos c11] at hk
            refine zi_l rfl rfl rfl ?_
            refine zi_a (st' := .int 100 :: _) rfl rfl rfl ?_
            refine zi_l rfl rfl rfl ?_
            refine zi_a rfl rfl rfl ?_
            refine zi_a (st' := .int (-1) :: _) rfl rfl rfl ?_
            refine zi_a (st' := .int (-1) :: _) rfl rfl rfl ?_
            refine zi_a (st' := .int (-1) :: _) rfl rfl rfl ?_
            refine zi_l rfl rfl rfl ?_
            refine zi_a (st' := .int 1 :: _) rfl rfl rfl ?_
            refine zi_a (st' := .int 1 :: _) rfl rfl rfl ?_
            cases c12 : mF_put ((100 : Int32) + a1) (-1 : Int32) (-1 : Int32) (-1 : Int32) a2 (1 : Int32) (1 : Int32) μ with
            | none => rw [c12] at hk; cases hk
            | some q =>
              obtain ⟨v13, μ14⟩ := q
              rw [c12] at hk
              dsimp only at hk
              refine zm_c h rfl rfl rfl rfl rfl rfl (mT_put c12 h (fun w h => ?_))
              cases hk
              exact zi_ri rfl rfl (k w h)
          · rw [if_neg c11] at hk
            refine zi_a (st' := .int (-2) :: _) rfl rfl rfl ?_
            cases hk
            exact zi_ri rfl rfl (k w h)
        · rw [if_neg c10] at hk
          refine zi_l rfl rfl rfl ?_
          refine zi_a (st' := .long 0 :: _) rfl rfl rfl ?_
          refine zi_a rfl rfl rfl ?_
          refine zi_ifd rfl rfl rfl (tgt := 33) (by decide) (fun c15 => ?_) (fun c15 => ?_)
          · rw [if_pos c15] at hk
            refine zi_a (st' := .int (-1) :: _) rfl rfl rfl ?_
            cases hk
            exact zi_ri rfl rfl (k w h)
          · rw [if_neg c15] at hk
            refine zi_l rfl rfl rfl ?_
            refine zi_c2 rfl rfl ?_
            refine zi_a rfl rfl rfl ?_
            refine zi_ifd rfl rfl rfl (tgt := 35) (by decide) (fun c16 => ?_) (fun c16 => ?_)
            · rw [if_pos c16] at hk
              refine zi_l rfl rfl rfl ?_
              refine zm_g h rfl rfl rfl rfl ?_
              refine zi_a (st' := .int 200 :: _) rfl rfl rfl ?_
              refine zi_ifd rfl rfl rfl (tgt := 48) (by decide) (fun c17 => ?_) (fun c17 => ?_)
              · rw [if_pos c17] at hk
                refine zi_l rfl rfl rfl ?_
                refine zi_a (st' := .int 100 :: _) rfl rfl rfl ?_
                refine zi_l rfl rfl rfl ?_
                refine zi_a rfl rfl rfl ?_
                refine zi_a (st' := .int (-1) :: _) rfl rfl rfl ?_
                refine zi_a (st' := .int (-1) :: _) rfl rfl rfl ?_
                refine zi_a (st' := .int (-1) :: _) rfl rfl rfl ?_
                refine zi_l rfl rfl rfl ?_
                refine zi_a (st' := .int 1 :: _) rfl rfl rfl ?_
                refine zi_a (st' := .int 1 :: _) rfl rfl rfl ?_
                cases c18 : mF_put ((100 : Int32) + a1) (-1 : Int32) (-1 : Int32) (-1 : Int32) a2 (1 : Int32) (1 : Int32) μ with
                | none => rw [c18] at hk; cases hk
                | some q =>
                  obtain ⟨v19, μ20⟩ := q
                  rw [c18] at hk
                  dsimp only at hk
                  refine zm_c h rfl rfl rfl rfl rfl rfl (mT_put c18 h (fun w h => ?_))
                  cases hk
                  exact zi_ri rfl rfl (k w h)
              · rw [if_neg c17] at hk
                refine zi_a (st' := .int (-2) :: _) rfl rfl rfl ?_
                cases hk
                exact zi_ri rfl rfl (k w h)
            · rw [if_neg c16] at hk
              refine zi_a (st' := .int (-1) :: _) rfl rfl rfl ?_
              cases hk
              exact zi_ri rfl rfl (k w h)

