/-! the class decompiled: functions over its state, and that its code runs them (by wip/whole/gen5.py) -/
def cF_isStatement (a0 : Nat) (σ : cS) : Option (Int32 × cS) :=
  if a0 < σ.2.1 then if (σ.1.1 1 0 a0) < (10 : Int32) then (some ((0 : Int32), σ)) else (if a0 < σ.2.1 then if (21 : Int32) < (σ.1.1 1 0 a0) then (some ((0 : Int32), σ)) else (some ((1 : Int32), σ)) else none) else none
theorem cT_isStatement {S : zS} {q : Nat} {w w0 : zW} {Post : Option Value → zW → Prop} {b0 : Nat} {pa sa : Nat → Nat} {σ σ2 : cS} {v : Int32} {a0 : Nat} (hq : 0 ≤ q) (hk : cF_isStatement a0 σ = some (v, σ2)) (h : cW b0 w0 pa sa σ w) (k : ∀ w2, cW b0 w0 pa sa σ2 w2 → Post (some (.int v)) w2) : zOk S (q + 1) 15 0 (lv_args 0 [.ref (pa a0)]) [] w Post := by
  unfold cF_isStatement at hk
  refine zi_l rfl rfl rfl ?_
  by_cases q1 : a0 < σ.2.1
  case neg => rw [if_neg q1] at hk; cases hk
  rw [if_pos q1] at hk
  refine zc_gP (v := .int (σ.1.1 1 0 a0)) h rfl rfl rfl q1 rfl ?_
  refine zi_a (st' := .int 10 :: _) rfl rfl rfl ?_
  refine zi_ifd rfl rfl rfl (tgt := 22) (by decide) (fun c2 => ?_) (fun c2 => ?_)
  · rw [if_pos c2] at hk
    refine zi_a (st' := .int 0 :: _) rfl rfl rfl ?_
    cases hk
    exact zi_rz rfl rfl (Or.inl rfl) (k w h)
  · rw [if_neg c2] at hk
    refine zi_l rfl rfl rfl ?_
    by_cases q3 : a0 < σ.2.1
    case neg => rw [if_neg q3] at hk; cases hk
    rw [if_pos q3] at hk
    refine zc_gP (v := .int (σ.1.1 1 0 a0)) h rfl rfl rfl q3 rfl ?_
    refine zi_a (st' := .int 21 :: _) rfl rfl rfl ?_
    refine zi_ifd rfl rfl rfl (tgt := 22) (by decide) (fun c4 => ?_) (fun c4 => ?_)
    · rw [if_pos c4] at hk
      refine zi_a (st' := .int 0 :: _) rfl rfl rfl ?_
      cases hk
      exact zi_rz rfl rfl (Or.inl rfl) (k w h)
    · rw [if_neg c4] at hk
      refine zi_a (st' := .int 1 :: _) rfl rfl rfl ?_
      refine zi_go rfl rfl rfl (tgt := 23) (by decide) ?_
      cases hk
      exact zi_rz rfl rfl (Or.inr rfl) (k w h)
def cF_takePlace (a0 : Nat) (a1 : Int32) (σ : cS) : Option (Int32 × cS) :=
  if a0 < σ.2.1 then cPut (cu1 σ 1 2 a0 a1) fun m2 => if a1 < 0 then (some ((0 : Int32), m2)) else (if (16 : Int32) ≤ a1 then (some ((0 : Int32), m2)) else (some ((1 : Int32), m2))) else none
theorem cT_takePlace {S : zS} {q : Nat} {w w0 : zW} {Post : Option Value → zW → Prop} {b0 : Nat} {pa sa : Nat → Nat} {σ σ2 : cS} {v : Int32} {a0 : Nat} {a1 : Int32} (hq : 0 ≤ q) (hk : cF_takePlace a0 a1 σ = some (v, σ2)) (h : cW b0 w0 pa sa σ w) (k : ∀ w2, cW b0 w0 pa sa σ2 w2 → Post (some (.int v)) w2) : zOk S (q + 1) 18 0 (lv_args 0 [.ref (pa a0), .int a1]) [] w Post := by
  unfold cF_takePlace at hk
  refine zi_l rfl rfl rfl ?_
  refine zi_l rfl rfl rfl ?_
  by_cases q1 : a0 < σ.2.1
  case neg => rw [if_neg q1] at hk; cases hk
  rw [if_pos q1] at hk
  refine zc_pP1 h rfl rfl rfl q1 rfl ⟨rfl, rfl, Or.inl rfl⟩ (fun w h => ?_)
  generalize cu1 σ 1 2 a0 a1 = m2 at h hk
  rw [cPut_eq] at hk
  refine zi_l rfl rfl rfl ?_
  refine zi_ifd rfl rfl rfl (tgt := 19) (by decide) (fun c3 => ?_) (fun c3 => ?_)
  · rw [if_pos c3] at hk
    refine zi_a (st' := .int 0 :: _) rfl rfl rfl ?_
    cases hk
    exact zi_rz rfl rfl (Or.inl rfl) (k w h)
  · rw [if_neg c3] at hk
    refine zi_l rfl rfl rfl ?_
    refine zi_a (st' := .int 16 :: _) rfl rfl rfl ?_
    refine zi_ifd rfl rfl rfl (tgt := 19) (by decide) (fun c4 => ?_) (fun c4 => ?_)
    · rw [if_pos c4] at hk
      refine zi_a (st' := .int 0 :: _) rfl rfl rfl ?_
      cases hk
      exact zi_rz rfl rfl (Or.inl rfl) (k w h)
    · rw [if_neg c4] at hk
      refine zi_a (st' := .int 1 :: _) rfl rfl rfl ?_
      refine zi_go rfl rfl rfl (tgt := 20) (by decide) ?_
      cases hk
      exact zi_rz rfl rfl (Or.inr rfl) (k w h)
def cF_takeExpression_53 (l0 : Nat) (l1 : Nat) (σ : cS) : Option (Int32 × cS) :=
  if l0 < σ.2.1 then if l1 < σ.2.1 then if l0 < σ.2.1 then cPut (cu1 σ 1 8 l0 (if (σ.1.1 1 8 l0) < ((σ.1.1 1 8 l1) + (1 : Int32)) then ((σ.1.1 1 8 l1) + (1 : Int32)) else (σ.1.1 1 8 l0))) fun m4 => some ((1 : Int32), m4) else none else none else none
theorem cT_takeExpression_53 {S : zS} {q : Nat} {w w0 : zW} {Post : Option Value → zW → Prop} {b0 : Nat} {pa sa : Nat → Nat} {σ σ2 : cS} {v : Int32} {l0 : Nat} {l1 : Nat} (hq : 1 ≤ q) (hk : cF_takeExpression_53 l0 l1 σ = some (v, σ2)) (h : cW b0 w0 pa sa σ w) (k : ∀ w2, cW b0 w0 pa sa σ2 w2 → Post (some (.int v)) w2) : zOk S (q + 1) 14 53 [(0, .ref (pa l0)), (1, .ref (pa l1))] [] w Post := by
  unfold cF_takeExpression_53 at hk
  refine zi_l rfl rfl rfl ?_
  refine zi_l rfl rfl rfl ?_
  by_cases q1 : l0 < σ.2.1
  case neg => rw [if_neg q1] at hk; cases hk
  rw [if_pos q1] at hk
  refine zc_gP (v := .int (σ.1.1 1 8 l0)) h rfl rfl rfl q1 rfl ?_
  refine zi_l rfl rfl rfl ?_
  by_cases q2 : l1 < σ.2.1
  case neg => rw [if_neg q2] at hk; cases hk
  rw [if_pos q2] at hk
  refine zc_gP (v := .int (σ.1.1 1 8 l1)) h rfl rfl rfl q2 rfl ?_
  refine zi_a (st' := .int 1 :: _) rfl rfl rfl ?_
  refine zi_a rfl rfl rfl ?_
  refine zi_s rfl rfl rfl rfl rfl (c_max ?_)
  by_cases q3 : l0 < σ.2.1
  case neg => rw [if_neg q3] at hk; cases hk
  rw [if_pos q3] at hk
  refine zc_pP1 h rfl rfl rfl q3 rfl ⟨rfl, rfl, Or.inl rfl⟩ (fun w h => ?_)
  generalize cu1 σ 1 8 l0 (if (σ.1.1 1 8 l0) < ((σ.1.1 1 8 l1) + (1 : Int32)) then ((σ.1.1 1 8 l1) + (1 : Int32)) else (σ.1.1 1 8 l0)) = m4 at h hk
  rw [cPut_eq] at hk
  refine zi_a (st' := .int 1 :: _) rfl rfl rfl ?_
  cases hk
  exact zi_rz rfl rfl (Or.inr rfl) (k w h)
def cF_takeExpression_33 (l0 : Nat) (l1 : Nat) (σ : cS) : Option (Int32 × cS) :=
  if l0 < σ.2.1 then match cF_isStatement l0 σ with | none => none | some (v3, m4) => if ¬ v3 = 0 then (cF_takeExpression_53  l0 l1 m4) else (if l0 < m4.2.1 then if l1 < m4.2.1 then if l0 < m4.2.1 then cPut (cu2 m4 1 9 l0 ((m4.1.2.1 1 9 l0) + (m4.1.2.1 1 9 l1))) fun m9 => cF_takeExpression_53  l0 l1 m9 else none else none else none) else none
theorem cT_takeExpression_33 {S : zS} {q : Nat} {w w0 : zW} {Post : Option Value → zW → Prop} {b0 : Nat} {pa sa : Nat → Nat} {σ σ2 : cS} {v : Int32} {l0 : Nat} {l1 : Nat} (hq : 1 ≤ q) (hk : cF_takeExpression_33 l0 l1 σ = some (v, σ2)) (h : cW b0 w0 pa sa σ w) (k : ∀ w2, cW b0 w0 pa sa σ2 w2 → Post (some (.int v)) w2) : zOk S (q + 1) 14 33 [(0, .ref (pa l0)), (1, .ref (pa l1))] [] w Post := by
  unfold cF_takeExpression_33 at hk
  refine zi_l rfl rfl rfl ?_
  by_cases q1 : l0 < σ.2.1
  case neg => rw [if_neg q1] at hk; cases hk
  rw [if_pos q1] at hk
  cases c2 : cF_isStatement l0 σ with
  | none => rw [c2] at hk; cases hk
  | some q1 =>
    obtain ⟨v3, m4⟩ := q1
    rw [c2] at hk
    dsimp only at hk
    refine zi_v rfl rfl rfl (h.shP q1) rfl rfl rfl (zOk.deep (cT_isStatement (q := 0) (by omega) c2 h (fun w h => ?_)) (by omega))
    refine zi_ifd rfl rfl rfl (tgt := 53) (by decide) (fun c5 => ?_) (fun c5 => ?_)
    · rw [if_pos c5] at hk
      exact cT_takeExpression_53 hq hk h k
    · rw [if_neg c5] at hk
      refine zi_l rfl rfl rfl ?_
      refine zi_a rfl rfl rfl ?_
      by_cases q6 : l0 < m4.2.1
      case neg => rw [if_neg q6] at hk; cases hk
      rw [if_pos q6] at hk
      refine zc_gP (v := .long (m4.1.2.1 1 9 l0)) h rfl rfl rfl q6 rfl ?_
      refine zi_l rfl rfl rfl ?_
      by_cases q7 : l1 < m4.2.1
      case neg => rw [if_neg q7] at hk; cases hk
      rw [if_pos q7] at hk
      refine zc_gP (v := .long (m4.1.2.1 1 9 l1)) h rfl rfl rfl q7 rfl ?_
      refine zi_a rfl rfl rfl ?_
      by_cases q8 : l0 < m4.2.1
      case neg => rw [if_neg q8] at hk; cases hk
      rw [if_pos q8] at hk
      refine zc_pP2 h rfl rfl rfl q8 rfl ⟨rfl, rfl, Or.inl rfl⟩ (fun w h => ?_)
      generalize cu2 m4 1 9 l0 ((m4.1.2.1 1 9 l0) + (m4.1.2.1 1 9 l1)) = m9 at h hk
      rw [cPut_eq] at hk
      exact cT_takeExpression_53 hq hk h k
def cF_takeExpression (a0 : Nat) (a1 : Option Nat) (σ : cS) : Option (Int32 × cS) :=
  match a1 with | none => (some ((0 : Int32), σ)) | some i1 => (if i1 < σ.2.1 then match cF_isStatement i1 σ with | none => none | some (v3, m4) => if v3 = 0 then (if a0 < m4.2.1 then match (m4.1.2.2 1 4 a0) with | none => (if a0 < m4.2.1 then if i1 < m4.2.1 then cPut (cu3 m4 1 4 a0 (some i1)) fun m11 => cF_takeExpression_33  a0 i1 m11 else none else none) | some i8 => (if a0 < m4.2.1 then if i1 < m4.2.1 then cPut (cu3 m4 1 5 a0 (some i1)) fun m14 => cF_takeExpression_33  a0 i1 m14 else none else none) else none) else (some ((0 : Int32), m4)) else none)
theorem cT_takeExpression {S : zS} {q : Nat} {w w0 : zW} {Post : Option Value → zW → Prop} {b0 : Nat} {pa sa : Nat → Nat} {σ σ2 : cS} {v : Int32} {a0 : Nat} {a1 : Option Nat} (hq : 1 ≤ q) (hk : cF_takeExpression a0 a1 σ = some (v, σ2)) (h : cW b0 w0 pa sa σ w) (k : ∀ w2, cW b0 w0 pa sa σ2 w2 → Post (some (.int v)) w2) : zOk S (q + 1) 14 0 (lv_args 0 [.ref (pa a0), cr pa a1]) [] w Post := by
  unfold cF_takeExpression at hk
  cases a1 with
  | none =>
    dsimp only at hk
    refine zi_l rfl rfl rfl ?_
    refine zi_go rfl rfl rfl (tgt := 11) (by decide) ?_
    refine zi_a (st' := .int 0 :: _) rfl rfl rfl ?_
    cases hk
    exact zi_rz rfl rfl (Or.inl rfl) (k w h)
  | some i1 =>
    dsimp only at hk
    refine zi_l rfl rfl rfl ?_
    refine zi_stay rfl rfl rfl (tgt := 11) (by decide) ?_
    refine zi_l rfl rfl rfl ?_
    by_cases q1 : i1 < σ.2.1
    case neg => rw [if_neg q1] at hk; cases hk
    rw [if_pos q1] at hk
    cases c2 : cF_isStatement i1 σ with
    | none => rw [c2] at hk; cases hk
    | some q1 =>
      obtain ⟨v3, m4⟩ := q1
      rw [c2] at hk
      dsimp only at hk
      refine zi_v rfl rfl rfl (h.shP q1) rfl rfl rfl (zOk.deep (cT_isStatement (q := 0) (by omega) c2 h (fun w h => ?_)) (by omega))
      refine zi_ifd rfl rfl rfl (tgt := 13) (by decide) (fun c5 => ?_) (fun c5 => ?_)
      · rw [if_pos c5] at hk
        refine zi_l rfl rfl rfl ?_
        by_cases q6 : a0 < m4.2.1
        case neg => rw [if_neg q6] at hk; cases hk
        rw [if_pos q6] at hk
        refine zc_gP (v := cr pa (m4.1.2.2 1 4 a0)) h rfl rfl rfl q6 rfl ?_
        cases e7 : (m4.1.2.2 1 4 a0) with
        | none =>
          rw [e7] at hk
          try rw [e7]
          dsimp only at hk
          refine zi_stay rfl rfl rfl (tgt := 28) (by decide) ?_
          refine zi_l rfl rfl rfl ?_
          refine zi_l rfl rfl rfl ?_
          by_cases q9 : a0 < m4.2.1
          case neg => rw [if_neg q9] at hk; cases hk
          rw [if_pos q9] at hk
          by_cases q10 : i1 < m4.2.1
          case neg => rw [if_neg q10] at hk; cases hk
          rw [if_pos q10] at hk
          refine zc_pP3 h rfl rfl rfl q9 rfl ⟨rfl, rfl, Or.inl rfl⟩ q10 (fun w h => ?_)
          generalize cu3 m4 1 4 a0 (some i1) = m11 at h hk
          rw [cPut_eq] at hk
          refine zi_go rfl rfl rfl (tgt := 33) (by decide) ?_
          exact cT_takeExpression_33 hq hk h k
        | some i8 =>
          rw [e7] at hk
          try rw [e7]
          dsimp only at hk
          refine zi_go rfl rfl rfl (tgt := 28) (by decide) ?_
          refine zi_l rfl rfl rfl ?_
          refine zi_l rfl rfl rfl ?_
          by_cases q12 : a0 < m4.2.1
          case neg => rw [if_neg q12] at hk; cases hk
          rw [if_pos q12] at hk
          by_cases q13 : i1 < m4.2.1
          case neg => rw [if_neg q13] at hk; cases hk
          rw [if_pos q13] at hk
          refine zc_pP3 h rfl rfl rfl q12 rfl ⟨rfl, rfl, Or.inl rfl⟩ q13 (fun w h => ?_)
          generalize cu3 m4 1 5 a0 (some i1) = m14 at h hk
          rw [cPut_eq] at hk
          exact cT_takeExpression_33 hq hk h k
      · rw [if_neg c5] at hk
        refine zi_a (st' := .int 0 :: _) rfl rfl rfl ?_
        cases hk
        exact zi_rz rfl rfl (Or.inl rfl) (k w h)
def cF_takeStatement_83 (s0 : Nat) (s1 : Int32) (σ : cS) : Option (Int32 × cS) :=
  if s1 = 0 ∨ s1 = 1 then if s0 < σ.2.1 then cPut (cu1 σ 1 10 s0 s1) fun m3 => some ((1 : Int32), m3) else none else none
theorem cT_takeStatement_83 {S : zS} {q : Nat} {w w0 : zW} {Post : Option Value → zW → Prop} {b0 : Nat} {pa sa : Nat → Nat} {σ σ2 : cS} {v : Int32} {s0 : Nat} {s1 : Int32} (hq : 1 ≤ q) (hk : cF_takeStatement_83 s0 s1 σ = some (v, σ2)) (h : cW b0 w0 pa sa σ w) (k : ∀ w2, cW b0 w0 pa sa σ2 w2 → Post (some (.int v)) w2) : zOk S (q + 1) 17 83 [] [.int s1, .ref (pa s0)] w Post := by
  unfold cF_takeStatement_83 at hk
  by_cases q1 : s1 = 0 ∨ s1 = 1
  case neg => rw [if_neg q1] at hk; cases hk
  rw [if_pos q1] at hk
  by_cases q2 : s0 < σ.2.1
  case neg => rw [if_neg q2] at hk; cases hk
  rw [if_pos q2] at hk
  refine zc_pP1 h rfl rfl rfl q2 rfl ⟨z_nb q1, z_fb q1, Or.inl rfl⟩ (fun w h => ?_)
  generalize cu1 σ 1 10 s0 s1 = m3 at h hk
  rw [cPut_eq] at hk
  refine zi_a (st' := .int 1 :: _) rfl rfl rfl ?_
  cases hk
  exact zi_rz rfl rfl (Or.inr rfl) (k w h)
def cF_takeStatement_82 (s0 : Nat) (σ : cS) : Option (Int32 × cS) :=
  cF_takeStatement_83  s0 (0 : Int32) σ
theorem cT_takeStatement_82 {S : zS} {q : Nat} {w w0 : zW} {Post : Option Value → zW → Prop} {b0 : Nat} {pa sa : Nat → Nat} {σ σ2 : cS} {v : Int32} {s0 : Nat} (hq : 1 ≤ q) (hk : cF_takeStatement_82 s0 σ = some (v, σ2)) (h : cW b0 w0 pa sa σ w) (k : ∀ w2, cW b0 w0 pa sa σ2 w2 → Post (some (.int v)) w2) : zOk S (q + 1) 17 82 [] [.ref (pa s0)] w Post := by
  unfold cF_takeStatement_82 at hk
  refine zi_a (st' := .int 0 :: _) rfl rfl rfl ?_
  exact cT_takeStatement_83 hq hk h k
def cF_takeStatement_33 (l0 : Nat) (l1 : Nat) (σ : cS) : Option (Int32 × cS) :=
  if l0 < σ.2.1 then if l1 < σ.2.1 then if l0 < σ.2.1 then cPut (cu2 σ 1 9 l0 ((σ.1.2.1 1 9 l0) + (σ.1.2.1 1 9 l1))) fun m4 => if l0 < m4.2.1 then if l1 < m4.2.1 then if l0 < m4.2.1 then cPut (cu1 m4 1 8 l0 (if (m4.1.1 1 8 l0) < ((m4.1.1 1 8 l1) + (1 : Int32)) then ((m4.1.1 1 8 l1) + (1 : Int32)) else (m4.1.1 1 8 l0))) fun m8 => if l0 < m8.2.1 then if (m8.1.1 1 10 l0) = 0 then (cF_takeStatement_82  l0 m8) else (if l1 < m8.2.1 then if (m8.1.1 1 10 l1) = 0 then (cF_takeStatement_82  l0 m8) else (cF_takeStatement_83  l0 (1 : Int32) m8) else none) else none else none else none else none else none else none else none
theorem cT_takeStatement_33 {S : zS} {q : Nat} {w w0 : zW} {Post : Option Value → zW → Prop} {b0 : Nat} {pa sa : Nat → Nat} {σ σ2 : cS} {v : Int32} {l0 : Nat} {l1 : Nat} (hq : 1 ≤ q) (hk : cF_takeStatement_33 l0 l1 σ = some (v, σ2)) (h : cW b0 w0 pa sa σ w) (k : ∀ w2, cW b0 w0 pa sa σ2 w2 → Post (some (.int v)) w2) : zOk S (q + 1) 17 33 [(0, .ref (pa l0)), (1, .ref (pa l1))] [] w Post := by
  unfold cF_takeStatement_33 at hk
  refine zi_l rfl rfl rfl ?_
  refine zi_a rfl rfl rfl ?_
  by_cases q1 : l0 < σ.2.1
  case neg => rw [if_neg q1] at hk; cases hk
  rw [if_pos q1] at hk
  refine zc_gP (v := .long (σ.1.2.1 1 9 l0)) h rfl rfl rfl q1 rfl ?_
  refine zi_l rfl rfl rfl ?_
  by_cases q2 : l1 < σ.2.1
  case neg => rw [if_neg q2] at hk; cases hk
  rw [if_pos q2] at hk
  refine zc_gP (v := .long (σ.1.2.1 1 9 l1)) h rfl rfl rfl q2 rfl ?_
  refine zi_a rfl rfl rfl ?_
  by_cases q3 : l0 < σ.2.1
  case neg => rw [if_neg q3] at hk; cases hk
  rw [if_pos q3] at hk
  refine zc_pP2 h rfl rfl rfl q3 rfl ⟨rfl, rfl, Or.inl rfl⟩ (fun w h => ?_)
  generalize cu2 σ 1 9 l0 ((σ.1.2.1 1 9 l0) + (σ.1.2.1 1 9 l1)) = m4 at h hk
  rw [cPut_eq] at hk
  refine zi_l rfl rfl rfl ?_
  refine zi_l rfl rfl rfl ?_
  by_cases q5 : l0 < m4.2.1
  case neg => rw [if_neg q5] at hk; cases hk
  rw [if_pos q5] at hk
  refine zc_gP (v := .int (m4.1.1 1 8 l0)) h rfl rfl rfl q5 rfl ?_
  refine zi_l rfl rfl rfl ?_
  by_cases q6 : l1 < m4.2.1
  case neg => rw [if_neg q6] at hk; cases hk
  rw [if_pos q6] at hk
  refine zc_gP (v := .int (m4.1.1 1 8 l1)) h rfl rfl rfl q6 rfl ?_
  refine zi_a (st' := .int 1 :: _) rfl rfl rfl ?_
  refine zi_a rfl rfl rfl ?_
  refine zi_s rfl rfl rfl rfl rfl (c_max ?_)
  by_cases q7 : l0 < m4.2.1
  case neg => rw [if_neg q7] at hk; cases hk
  rw [if_pos q7] at hk
  refine zc_pP1 h rfl rfl rfl q7 rfl ⟨rfl, rfl, Or.inl rfl⟩ (fun w h => ?_)
  generalize cu1 m4 1 8 l0 (if (m4.1.1 1 8 l0) < ((m4.1.1 1 8 l1) + (1 : Int32)) then ((m4.1.1 1 8 l1) + (1 : Int32)) else (m4.1.1 1 8 l0)) = m8 at h hk
  rw [cPut_eq] at hk
  refine zi_l rfl rfl rfl ?_
  refine zi_l rfl rfl rfl ?_
  by_cases q9 : l0 < m8.2.1
  case neg => rw [if_neg q9] at hk; cases hk
  rw [if_pos q9] at hk
  refine zc_gP (v := .int (m8.1.1 1 10 l0)) h rfl rfl rfl q9 rfl ?_
  refine zi_ifd rfl rfl rfl (tgt := 82) (by decide) (fun c10 => ?_) (fun c10 => ?_)
  · rw [if_pos c10] at hk
    refine zk_sub [] rfl rfl ?_
    exact cT_takeStatement_82 hq hk h k
  · rw [if_neg c10] at hk
    refine zi_l rfl rfl rfl ?_
    by_cases q11 : l1 < m8.2.1
    case neg => rw [if_neg q11] at hk; cases hk
    rw [if_pos q11] at hk
    refine zc_gP (v := .int (m8.1.1 1 10 l1)) h rfl rfl rfl q11 rfl ?_
    refine zi_ifd rfl rfl rfl (tgt := 82) (by decide) (fun c12 => ?_) (fun c12 => ?_)
    · rw [if_pos c12] at hk
      refine zk_sub [] rfl rfl ?_
      exact cT_takeStatement_82 hq hk h k
    · rw [if_neg c12] at hk
      refine zi_a (st' := .int 1 :: _) rfl rfl rfl ?_
      refine zi_go rfl rfl rfl (tgt := 83) (by decide) ?_
      refine zk_sub [] rfl rfl ?_
      exact cT_takeStatement_83 hq hk h k
def cF_takeStatement (a0 : Nat) (a1 : Option Nat) (σ : cS) : Option (Int32 × cS) :=
  match a1 with | none => (some ((0 : Int32), σ)) | some i1 => (if i1 < σ.2.1 then match cF_isStatement i1 σ with | none => none | some (v3, m4) => if ¬ v3 = 0 then (if a0 < m4.2.1 then match (m4.1.2.2 1 6 a0) with | none => (if a0 < m4.2.1 then if i1 < m4.2.1 then cPut (cu3 m4 1 6 a0 (some i1)) fun m11 => cF_takeStatement_33  a0 i1 m11 else none else none) | some i8 => (if a0 < m4.2.1 then if i1 < m4.2.1 then cPut (cu3 m4 1 7 a0 (some i1)) fun m14 => cF_takeStatement_33  a0 i1 m14 else none else none) else none) else (some ((0 : Int32), m4)) else none)
theorem cT_takeStatement {S : zS} {q : Nat} {w w0 : zW} {Post : Option Value → zW → Prop} {b0 : Nat} {pa sa : Nat → Nat} {σ σ2 : cS} {v : Int32} {a0 : Nat} {a1 : Option Nat} (hq : 1 ≤ q) (hk : cF_takeStatement a0 a1 σ = some (v, σ2)) (h : cW b0 w0 pa sa σ w) (k : ∀ w2, cW b0 w0 pa sa σ2 w2 → Post (some (.int v)) w2) : zOk S (q + 1) 17 0 (lv_args 0 [.ref (pa a0), cr pa a1]) [] w Post := by
  unfold cF_takeStatement at hk
  cases a1 with
  | none =>
    dsimp only at hk
    refine zi_l rfl rfl rfl ?_
    refine zi_go rfl rfl rfl (tgt := 11) (by decide) ?_
    refine zi_a (st' := .int 0 :: _) rfl rfl rfl ?_
    cases hk
    exact zi_rz rfl rfl (Or.inl rfl) (k w h)
  | some i1 =>
    dsimp only at hk
    refine zi_l rfl rfl rfl ?_
    refine zi_stay rfl rfl rfl (tgt := 11) (by decide) ?_
    refine zi_l rfl rfl rfl ?_
    by_cases q1 : i1 < σ.2.1
    case neg => rw [if_neg q1] at hk; cases hk
    rw [if_pos q1] at hk
    cases c2 : cF_isStatement i1 σ with
    | none => rw [c2] at hk; cases hk
    | some q1 =>
      obtain ⟨v3, m4⟩ := q1
      rw [c2] at hk
      dsimp only at hk
      refine zi_v rfl rfl rfl (h.shP q1) rfl rfl rfl (zOk.deep (cT_isStatement (q := 0) (by omega) c2 h (fun w h => ?_)) (by omega))
      refine zi_ifd rfl rfl rfl (tgt := 13) (by decide) (fun c5 => ?_) (fun c5 => ?_)
      · rw [if_pos c5] at hk
        refine zi_l rfl rfl rfl ?_
        by_cases q6 : a0 < m4.2.1
        case neg => rw [if_neg q6] at hk; cases hk
        rw [if_pos q6] at hk
        refine zc_gP (v := cr pa (m4.1.2.2 1 6 a0)) h rfl rfl rfl q6 rfl ?_
        cases e7 : (m4.1.2.2 1 6 a0) with
        | none =>
          rw [e7] at hk
          try rw [e7]
          dsimp only at hk
          refine zi_stay rfl rfl rfl (tgt := 28) (by decide) ?_
          refine zi_l rfl rfl rfl ?_
          refine zi_l rfl rfl rfl ?_
          by_cases q9 : a0 < m4.2.1
          case neg => rw [if_neg q9] at hk; cases hk
          rw [if_pos q9] at hk
          by_cases q10 : i1 < m4.2.1
          case neg => rw [if_neg q10] at hk; cases hk
          rw [if_pos q10] at hk
          refine zc_pP3 h rfl rfl rfl q9 rfl ⟨rfl, rfl, Or.inl rfl⟩ q10 (fun w h => ?_)
          generalize cu3 m4 1 6 a0 (some i1) = m11 at h hk
          rw [cPut_eq] at hk
          refine zi_go rfl rfl rfl (tgt := 33) (by decide) ?_
          exact cT_takeStatement_33 hq hk h k
        | some i8 =>
          rw [e7] at hk
          try rw [e7]
          dsimp only at hk
          refine zi_go rfl rfl rfl (tgt := 28) (by decide) ?_
          refine zi_l rfl rfl rfl ?_
          refine zi_l rfl rfl rfl ?_
          by_cases q12 : a0 < m4.2.1
          case neg => rw [if_neg q12] at hk; cases hk
          rw [if_pos q12] at hk
          by_cases q13 : i1 < m4.2.1
          case neg => rw [if_neg q13] at hk; cases hk
          rw [if_pos q13] at hk
          refine zc_pP3 h rfl rfl rfl q12 rfl ⟨rfl, rfl, Or.inl rfl⟩ q13 (fun w h => ?_)
          generalize cu3 m4 1 7 a0 (some i1) = m14 at h hk
          rw [cPut_eq] at hk
          exact cT_takeStatement_33 hq hk h k
      · rw [if_neg c5] at hk
        refine zi_a (st' := .int 0 :: _) rfl rfl rfl ?_
        cases hk
        exact zi_rz rfl rfl (Or.inl rfl) (k w h)
def cF_takeClosing (a0 : Nat) (a1 : Option Nat) (σ : cS) : Option (Int32 × cS) :=
  match a1 with | none => (some ((0 : Int32), σ)) | some i1 => (if i1 < σ.2.1 then if (σ.1.1 1 10 i1) = 0 then (some ((0 : Int32), σ)) else (if a0 < σ.2.1 then match cF_takeStatement a0 (some i1) σ with | none => none | some (v5, m6) => if v5 = 0 then (some ((0 : Int32), m6)) else (some ((1 : Int32), m6)) else none) else none)
theorem cT_takeClosing {S : zS} {q : Nat} {w w0 : zW} {Post : Option Value → zW → Prop} {b0 : Nat} {pa sa : Nat → Nat} {σ σ2 : cS} {v : Int32} {a0 : Nat} {a1 : Option Nat} (hq : 2 ≤ q) (hk : cF_takeClosing a0 a1 σ = some (v, σ2)) (h : cW b0 w0 pa sa σ w) (k : ∀ w2, cW b0 w0 pa sa σ2 w2 → Post (some (.int v)) w2) : zOk S (q + 1) 19 0 (lv_args 0 [.ref (pa a0), cr pa a1]) [] w Post := by
  unfold cF_takeClosing at hk
  cases a1 with
  | none =>
    dsimp only at hk
    refine zi_l rfl rfl rfl ?_
    refine zi_go rfl rfl rfl (tgt := 23) (by decide) ?_
    refine zi_a (st' := .int 0 :: _) rfl rfl rfl ?_
    cases hk
    exact zi_rz rfl rfl (Or.inl rfl) (k w h)
  | some i1 =>
    dsimp only at hk
    refine zi_l rfl rfl rfl ?_
    refine zi_stay rfl rfl rfl (tgt := 23) (by decide) ?_
    refine zi_l rfl rfl rfl ?_
    by_cases q1 : i1 < σ.2.1
    case neg => rw [if_neg q1] at hk; cases hk
    rw [if_pos q1] at hk
    refine zc_gP (v := .int (σ.1.1 1 10 i1)) h rfl rfl rfl q1 rfl ?_
    refine zi_ifd rfl rfl rfl (tgt := 23) (by decide) (fun c2 => ?_) (fun c2 => ?_)
    · rw [if_pos c2] at hk
      refine zi_a (st' := .int 0 :: _) rfl rfl rfl ?_
      cases hk
      exact zi_rz rfl rfl (Or.inl rfl) (k w h)
    · rw [if_neg c2] at hk
      refine zi_l rfl rfl rfl ?_
      refine zi_l rfl rfl rfl ?_
      by_cases q3 : a0 < σ.2.1
      case neg => rw [if_neg q3] at hk; cases hk
      rw [if_pos q3] at hk
      cases c4 : cF_takeStatement a0 (some i1) σ with
      | none => rw [c4] at hk; cases hk
      | some q1 =>
        obtain ⟨v5, m6⟩ := q1
        rw [c4] at hk
        dsimp only at hk
        refine zi_v rfl rfl rfl (h.shP q3) rfl rfl rfl (zOk.deep (cT_takeStatement (q := 1) (by omega) c4 h (fun w h => ?_)) (by omega))
        refine zi_ifd rfl rfl rfl (tgt := 23) (by decide) (fun c7 => ?_) (fun c7 => ?_)
        · rw [if_pos c7] at hk
          refine zi_a (st' := .int 0 :: _) rfl rfl rfl ?_
          cases hk
          exact zi_rz rfl rfl (Or.inl rfl) (k w h)
        · rw [if_neg c7] at hk
          refine zi_a (st' := .int 1 :: _) rfl rfl rfl ?_
          refine zi_go rfl rfl rfl (tgt := 24) (by decide) ?_
          cases hk
          exact zi_rz rfl rfl (Or.inr rfl) (k w h)
def cF_partAt (a1 : Int32) (σ : cS) : Option (Option Nat × cS) :=
  if a1 < 0 then (some (none, σ)) else (if (σ.1.1 2 1 0) ≤ a1 then (some (none, σ)) else (if (Int32.ofNat 200) ≤ a1 then (some (none, σ)) else (if zix a1 200 then some ((σ.1.2.2 10 0 (a1).toNatClampNeg), σ) else none)))
theorem cT_partAt {S : zS} {q : Nat} {w w0 : zW} {Post : Option Value → zW → Prop} {b0 : Nat} {pa sa : Nat → Nat} {σ σ2 : cS} {v : Option Nat} {a1 : Int32} (hq : 0 ≤ q) (hk : cF_partAt a1 σ = some (v, σ2)) (h : cW b0 w0 pa sa σ w) (k : ∀ w2, cW b0 w0 pa sa σ2 w2 → Post (some (cr pa v)) w2) : zOk S (q + 1) 13 0 (lv_args 0 [.ref (b0 + 1), .int a1]) [] w Post := by
  unfold cF_partAt at hk
  refine zi_l rfl rfl rfl ?_
  refine zi_ifd rfl rfl rfl (tgt := 30) (by decide) (fun c1 => ?_) (fun c1 => ?_)
  · rw [if_pos c1] at hk
    refine zi_a rfl rfl rfl ?_
    cases hk
    exact zi_rr (p := pa) (o := none) rfl rfl (k w h)
  · rw [if_neg c1] at hk
    refine zi_l rfl rfl rfl ?_
    refine zi_l rfl rfl rfl ?_
    refine zc_gv (o := 1) (n := 2) (v := .int (σ.1.1 2 1 0)) h rfl rfl rfl (by decide) (by decide) rfl ?_
    refine zi_ifd rfl rfl rfl (tgt := 30) (by decide) (fun c2 => ?_) (fun c2 => ?_)
    · rw [if_pos c2] at hk
      refine zi_a rfl rfl rfl ?_
      cases hk
      exact zi_rr (p := pa) (o := none) rfl rfl (k w h)
    · rw [if_neg c2] at hk
      refine zi_l rfl rfl rfl ?_
      refine zi_l rfl rfl rfl ?_
      refine zc_gf (c := 2) (k := 0) (o := 1) (n := 2) (t := 2) h rfl rfl rfl (by decide) (by decide) ?_
      refine zc_len (o := 2) (c := 103) (n := 200) h rfl (by decide) rfl ?_
      refine zi_ifd rfl rfl rfl (tgt := 30) (by decide) (fun c3 => ?_) (fun c3 => ?_)
      · rw [if_pos c3] at hk
        refine zi_a rfl rfl rfl ?_
        cases hk
        exact zi_rr (p := pa) (o := none) rfl rfl (k w h)
      · rw [if_neg c3] at hk
        refine zi_l rfl rfl rfl ?_
        refine zc_gf (c := 2) (k := 0) (o := 1) (n := 2) (t := 2) h rfl rfl rfl (by decide) (by decide) ?_
        refine zi_l rfl rfl rfl ?_
        by_cases q4 : zix a1 200
        case neg => rw [if_neg q4] at hk; cases hk
        rw [if_pos q4] at hk
        refine zc_lp h rfl q4 ?_
        refine zi_go rfl rfl rfl (tgt := 31) (by decide) ?_
        cases hk
        exact zi_rr (p := pa) (o := (σ.1.2.2 10 0 (a1).toNatClampNeg)) rfl rfl (k w h)
def cF_hasSafe (a1 : Int32) (σ : cS) : Option (Int32 × cS) :=
  if a1 < 0 then (some ((0 : Int32), σ)) else (if (Int32.ofNat 16) ≤ a1 then (some ((0 : Int32), σ)) else (if zix a1 16 then if (σ.1.1 15 0 (a1).toNatClampNeg) = 0 then (some ((0 : Int32), σ)) else (some ((1 : Int32), σ)) else none))
theorem cT_hasSafe {S : zS} {q : Nat} {w w0 : zW} {Post : Option Value → zW → Prop} {b0 : Nat} {pa sa : Nat → Nat} {σ σ2 : cS} {v : Int32} {a1 : Int32} (hq : 0 ≤ q) (hk : cF_hasSafe a1 σ = some (v, σ2)) (h : cW b0 w0 pa sa σ w) (k : ∀ w2, cW b0 w0 pa sa σ2 w2 → Post (some (.int v)) w2) : zOk S (q + 1) 51 0 (lv_args 0 [.ref (b0 + 4), .int a1]) [] w Post := by
  unfold cF_hasSafe at hk
  refine zi_l rfl rfl rfl ?_
  refine zi_ifd rfl rfl rfl (tgt := 26) (by decide) (fun c1 => ?_) (fun c1 => ?_)
  · rw [if_pos c1] at hk
    refine zi_a (st' := .int 0 :: _) rfl rfl rfl ?_
    cases hk
    exact zi_rz rfl rfl (Or.inl rfl) (k w h)
  · rw [if_neg c1] at hk
    refine zi_l rfl rfl rfl ?_
    refine zi_l rfl rfl rfl ?_
    refine zc_gf (c := 5) (k := 4) (o := 4) (n := 5) (t := 9) h rfl rfl rfl (by decide) (by decide) ?_
    refine zc_len (o := 9) (c := 102) (n := 16) h rfl (by decide) rfl ?_
    refine zi_ifd rfl rfl rfl (tgt := 26) (by decide) (fun c2 => ?_) (fun c2 => ?_)
    · rw [if_pos c2] at hk
      refine zi_a (st' := .int 0 :: _) rfl rfl rfl ?_
      cases hk
      exact zi_rz rfl rfl (Or.inl rfl) (k w h)
    · rw [if_neg c2] at hk
      refine zi_l rfl rfl rfl ?_
      refine zc_gf (c := 5) (k := 4) (o := 4) (n := 5) (t := 9) h rfl rfl rfl (by decide) (by decide) ?_
      refine zi_l rfl rfl rfl ?_
      by_cases q3 : zix a1 16
      case neg => rw [if_neg q3] at hk; cases hk
      rw [if_pos q3] at hk
      refine zc_lz (c := 15) (o := 9) (n := 16) h rfl (by decide) rfl rfl (by decide) rfl q3 ?_
      refine zi_ifd rfl rfl rfl (tgt := 26) (by decide) (fun c4 => ?_) (fun c4 => ?_)
      · rw [if_pos c4] at hk
        refine zi_a (st' := .int 0 :: _) rfl rfl rfl ?_
        cases hk
        exact zi_rz rfl rfl (Or.inl rfl) (k w h)
      · rw [if_neg c4] at hk
        refine zi_a (st' := .int 1 :: _) rfl rfl rfl ?_
        refine zi_go rfl rfl rfl (tgt := 27) (by decide) ?_
        cases hk
        exact zi_rz rfl rfl (Or.inr rfl) (k w h)
def cF_tellSafe (a1 : Int32) (a2 : Int64) (σ : cS) : Option (Int32 × cS) :=
  if a1 < 0 then (some ((0 : Int32), σ)) else (if a1 < (Int32.ofNat 16) then (if zix a1 16 then cPut (cu1 σ 15 0 (a1).toNatClampNeg (1 : Int32)) fun m4 => cPut (cput m4 14 a1 a2) fun m5 => if (cputb a1) = 0 ∨ (cputb a1) = 1 then some ((cputb a1), m5) else none else none) else (some ((0 : Int32), σ)))
theorem cT_tellSafe {S : zS} {q : Nat} {w w0 : zW} {Post : Option Value → zW → Prop} {b0 : Nat} {pa sa : Nat → Nat} {σ σ2 : cS} {v : Int32} {a1 : Int32} {a2 : Int64} (hq : 1 ≤ q) (hk : cF_tellSafe a1 a2 σ = some (v, σ2)) (h : cW b0 w0 pa sa σ w) (k : ∀ w2, cW b0 w0 pa sa σ2 w2 → Post (some (.int v)) w2) : zOk S (q + 1) 68 0 (lv_args 0 [.ref (b0 + 4), .int a1, .long a2]) [] w Post := by
  unfold cF_tellSafe at hk
  refine zi_l rfl rfl rfl ?_
  refine zi_ifd rfl rfl rfl (tgt := 13) (by decide) (fun c1 => ?_) (fun c1 => ?_)
  · rw [if_pos c1] at hk
    refine zi_a (st' := .int 0 :: _) rfl rfl rfl ?_
    cases hk
    exact zi_rz rfl rfl (Or.inl rfl) (k w h)
  · rw [if_neg c1] at hk
    refine zi_l rfl rfl rfl ?_
    refine zi_l rfl rfl rfl ?_
    refine zc_gf (c := 5) (k := 4) (o := 4) (n := 5) (t := 9) h rfl rfl rfl (by decide) (by decide) ?_
    refine zc_len (o := 9) (c := 102) (n := 16) h rfl (by decide) rfl ?_
    refine zi_ifd rfl rfl rfl (tgt := 15) (by decide) (fun c2 => ?_) (fun c2 => ?_)
    · rw [if_pos c2] at hk
      refine zi_l rfl rfl rfl ?_
      refine zc_gf (c := 5) (k := 4) (o := 4) (n := 5) (t := 9) h rfl rfl rfl (by decide) (by decide) ?_
      refine zi_l rfl rfl rfl ?_
      refine zi_a (st' := .int 1 :: _) rfl rfl rfl ?_
      by_cases q3 : zix a1 16
      case neg => rw [if_neg q3] at hk; cases hk
      rw [if_pos q3] at hk
      refine zc_sz (c := 15) (o := 9) (n := 16) h rfl (by decide) rfl rfl (by decide) rfl rfl q3 (fun w h => ?_)
      generalize cu1 σ 15 0 (a1).toNatClampNeg (1 : Int32) = m4 at h hk
      rw [cPut_eq] at hk
      refine zi_l rfl rfl rfl ?_
      refine zc_gf (c := 5) (k := 3) (o := 4) (n := 5) (t := 8) h rfl rfl rfl (by decide) (by decide) ?_
      refine zi_l rfl rfl rfl ?_
      refine zi_l rfl rfl rfl ?_
      refine zi_s rfl rfl rfl rfl rfl (cT_put (c := 14) (o := 8) h (by decide) rfl (fun w h => ?_))
      generalize cput m4 14 a1 a2 = m5 at h hk
      rw [cPut_eq] at hk
      by_cases q6 : (cputb a1) = 0 ∨ (cputb a1) = 1
      case neg => rw [if_neg q6] at hk; cases hk
      rw [if_pos q6] at hk
      cases hk
      exact zi_rz rfl rfl q6 (k w h)
    · rw [if_neg c2] at hk
      refine zi_a (st' := .int 0 :: _) rfl rfl rfl ?_
      cases hk
      exact zi_rz rfl rfl (Or.inl rfl) (k w h)
def cF_clearForRun (σ : cS) : Option (Unit × cS) :=
  cPut (cfill σ 12 (0 : Int64) 16) fun m1 => cPut (cfill m1 13 (0 : Int64) 16) fun m2 => some ((), m2)
theorem cT_clearForRun {S : zS} {q : Nat} {w w0 : zW} {Post : Option Value → zW → Prop} {b0 : Nat} {pa sa : Nat → Nat} {σ σ2 : cS} {v : Unit} (hq : 1 ≤ q) (hk : cF_clearForRun  σ = some (v, σ2)) (h : cW b0 w0 pa sa σ w) (k : ∀ w2, cW b0 w0 pa sa σ2 w2 → Post none w2) : zOk S (q + 1) 24 0 (lv_args 0 [.ref (b0 + 4)]) [] w Post := by
  unfold cF_clearForRun at hk
  refine zi_l rfl rfl rfl ?_
  refine zc_gf (c := 5) (k := 1) (o := 4) (n := 5) (t := 6) h rfl rfl rfl (by decide) (by decide) ?_
  refine zi_a (st' := .long 0 :: _) rfl rfl rfl ?_
  refine zi_s rfl rfl rfl rfl rfl (cT_fill (c := 12) (o := 6) h (by decide) rfl (fun w h => ?_))
  generalize cfill σ 12 (0 : Int64) 16 = m1 at h hk
  rw [cPut_eq] at hk
  refine zi_l rfl rfl rfl ?_
  refine zc_gf (c := 5) (k := 2) (o := 4) (n := 5) (t := 7) h rfl rfl rfl (by decide) (by decide) ?_
  refine zi_a (st' := .long 0 :: _) rfl rfl rfl ?_
  refine zi_s rfl rfl rfl rfl rfl (cT_fill (c := 13) (o := 7) h (by decide) rfl (fun w h => ?_))
  generalize cfill m1 13 (0 : Int64) 16 = m2 at h hk
  rw [cPut_eq] at hk
  cases hk
  exact zi_ret rfl rfl rfl (k w h)
def cF_clear (σ : cS) : Option (Unit × cS) :=
  cPut (cu1 σ 0 4 0 (0 : Int32)) fun m1 => cPut (cu1 m1 0 5 0 (0 : Int32)) fun m2 => some ((), m2)
theorem cT_clear {S : zS} {q : Nat} {w w0 : zW} {Post : Option Value → zW → Prop} {b0 : Nat} {pa sa : Nat → Nat} {σ σ2 : cS} {v : Unit} (hq : 0 ≤ q) (hk : cF_clear  σ = some (v, σ2)) (h : cW b0 w0 pa sa σ w) (k : ∀ w2, cW b0 w0 pa sa σ2 w2 → Post none w2) : zOk S (q + 1) 26 0 (lv_args 0 [.ref (b0 + 10)]) [] w Post := by
  unfold cF_clear at hk
  refine zi_l rfl rfl rfl ?_
  refine zi_a (st' := .int 0 :: _) rfl rfl rfl ?_
  refine zc_pv (o := 10) (n := 6) h rfl rfl rfl (by decide) (by decide) rfl ⟨rfl, rfl, Or.inl rfl⟩ (fun w h => ?_)
  generalize cu1 σ 0 4 0 (0 : Int32) = m1 at h hk
  rw [cPut_eq] at hk
  refine zi_l rfl rfl rfl ?_
  refine zi_a (st' := .int 0 :: _) rfl rfl rfl ?_
  refine zc_pv (o := 10) (n := 6) h rfl rfl rfl (by decide) (by decide) rfl ⟨rfl, rfl, Or.inl rfl⟩ (fun w h => ?_)
  generalize cu1 m1 0 5 0 (0 : Int32) = m2 at h hk
  rw [cPut_eq] at hk
  cases hk
  exact zi_ret rfl rfl rfl (k w h)
def cF_addAlarm (a1 : Int32) (a2 : Int32) (a3 : Int32) (σ : cS) : Option (Unit × cS) :=
  if (σ.1.1 0 4 0) < 0 then (some ((), σ)) else (if (σ.1.1 0 4 0) < (200 : Int32) then (if zix (σ.1.1 0 4 0) 200 then cPut (cu1 σ 16 0 ((σ.1.1 0 4 0)).toNatClampNeg a1) fun m4 => if zix (m4.1.1 0 4 0) 200 then cPut (cu1 m4 17 0 ((m4.1.1 0 4 0)).toNatClampNeg a2) fun m6 => if zix (m6.1.1 0 4 0) 200 then cPut (cu1 m6 18 0 ((m6.1.1 0 4 0)).toNatClampNeg a3) fun m8 => cPut (cu1 m8 0 4 0 ((m8.1.1 0 4 0) + (1 : Int32))) fun m9 => some ((), m9) else none else none else none) else (some ((), σ)))
theorem cT_addAlarm {S : zS} {q : Nat} {w w0 : zW} {Post : Option Value → zW → Prop} {b0 : Nat} {pa sa : Nat → Nat} {σ σ2 : cS} {v : Unit} {a1 : Int32} {a2 : Int32} {a3 : Int32} (hq : 0 ≤ q) (hk : cF_addAlarm a1 a2 a3 σ = some (v, σ2)) (h : cW b0 w0 pa sa σ w) (k : ∀ w2, cW b0 w0 pa sa σ2 w2 → Post none w2) : zOk S (q + 1) 35 0 (lv_args 0 [.ref (b0 + 10), .int a1, .int a2, .int a3]) [] w Post := by
  unfold cF_addAlarm at hk
  refine zi_l rfl rfl rfl ?_
  refine zc_gv (o := 10) (n := 6) (v := .int (σ.1.1 0 4 0)) h rfl rfl rfl (by decide) (by decide) rfl ?_
  refine zi_ifd rfl rfl rfl (tgt := 17) (by decide) (fun c1 => ?_) (fun c1 => ?_)
  · rw [if_pos c1] at hk
    cases hk
    exact zi_ret rfl rfl rfl (k w h)
  · rw [if_neg c1] at hk
    refine zi_l rfl rfl rfl ?_
    refine zc_gv (o := 10) (n := 6) (v := .int (σ.1.1 0 4 0)) h rfl rfl rfl (by decide) (by decide) rfl ?_
    refine zi_a (st' := .int 200 :: _) rfl rfl rfl ?_
    refine zi_ifd rfl rfl rfl (tgt := 18) (by decide) (fun c2 => ?_) (fun c2 => ?_)
    · rw [if_pos c2] at hk
      refine zi_l rfl rfl rfl ?_
      refine zc_gf (c := 0) (k := 0) (o := 10) (n := 6) (t := 11) h rfl rfl rfl (by decide) (by decide) ?_
      refine zi_l rfl rfl rfl ?_
      refine zc_gv (o := 10) (n := 6) (v := .int (σ.1.1 0 4 0)) h rfl rfl rfl (by decide) (by decide) rfl ?_
      refine zi_l rfl rfl rfl ?_
      by_cases q3 : zix (σ.1.1 0 4 0) 200
      case neg => rw [if_neg q3] at hk; cases hk
      rw [if_pos q3] at hk
      refine zc_st (c := 16) (o := 11) (n := 200) h rfl (by decide) rfl rfl (by decide) rfl q3 (fun w h => ?_)
      generalize cu1 σ 16 0 ((σ.1.1 0 4 0)).toNatClampNeg a1 = m4 at h hk
      rw [cPut_eq] at hk
      refine zi_l rfl rfl rfl ?_
      refine zc_gf (c := 0) (k := 1) (o := 10) (n := 6) (t := 12) h rfl rfl rfl (by decide) (by decide) ?_
      refine zi_l rfl rfl rfl ?_
      refine zc_gv (o := 10) (n := 6) (v := .int (m4.1.1 0 4 0)) h rfl rfl rfl (by decide) (by decide) rfl ?_
      refine zi_l rfl rfl rfl ?_
      by_cases q5 : zix (m4.1.1 0 4 0) 200
      case neg => rw [if_neg q5] at hk; cases hk
      rw [if_pos q5] at hk
      refine zc_st (c := 17) (o := 12) (n := 200) h rfl (by decide) rfl rfl (by decide) rfl q5 (fun w h => ?_)
      generalize cu1 m4 17 0 ((m4.1.1 0 4 0)).toNatClampNeg a2 = m6 at h hk
      rw [cPut_eq] at hk
      refine zi_l rfl rfl rfl ?_
      refine zc_gf (c := 0) (k := 2) (o := 10) (n := 6) (t := 13) h rfl rfl rfl (by decide) (by decide) ?_
      refine zi_l rfl rfl rfl ?_
      refine zc_gv (o := 10) (n := 6) (v := .int (m6.1.1 0 4 0)) h rfl rfl rfl (by decide) (by decide) rfl ?_
      refine zi_l rfl rfl rfl ?_
      by_cases q7 : zix (m6.1.1 0 4 0) 200
      case neg => rw [if_neg q7] at hk; cases hk
      rw [if_pos q7] at hk
      refine zc_st (c := 18) (o := 13) (n := 200) h rfl (by decide) rfl rfl (by decide) rfl q7 (fun w h => ?_)
      generalize cu1 m6 18 0 ((m6.1.1 0 4 0)).toNatClampNeg a3 = m8 at h hk
      rw [cPut_eq] at hk
      refine zi_l rfl rfl rfl ?_
      refine zi_a rfl rfl rfl ?_
      refine zc_gv (o := 10) (n := 6) (v := .int (m8.1.1 0 4 0)) h rfl rfl rfl (by decide) (by decide) rfl ?_
      refine zi_a (st' := .int 1 :: _) rfl rfl rfl ?_
      refine zi_a rfl rfl rfl ?_
      refine zc_pv (o := 10) (n := 6) h rfl rfl rfl (by decide) (by decide) rfl ⟨rfl, rfl, Or.inl rfl⟩ (fun w h => ?_)
      generalize cu1 m8 0 4 0 ((m8.1.1 0 4 0) + (1 : Int32)) = m9 at h hk
      rw [cPut_eq] at hk
      cases hk
      exact zi_ret rfl rfl rfl (k w h)
    · rw [if_neg c2] at hk
      cases hk
      exact zi_ret rfl rfl rfl (k w h)
def cF_addClosed (a1 : Int32) (σ : cS) : Option (Unit × cS) :=
  if (σ.1.1 0 5 0) < 0 then (some ((), σ)) else (if (σ.1.1 0 5 0) < (Int32.ofNat 200) then (if zix (σ.1.1 0 5 0) 200 then cPut (cu1 σ 19 0 ((σ.1.1 0 5 0)).toNatClampNeg a1) fun m4 => cPut (cu1 m4 0 5 0 ((m4.1.1 0 5 0) + (1 : Int32))) fun m5 => some ((), m5) else none) else (some ((), σ)))
theorem cT_addClosed {S : zS} {q : Nat} {w w0 : zW} {Post : Option Value → zW → Prop} {b0 : Nat} {pa sa : Nat → Nat} {σ σ2 : cS} {v : Unit} {a1 : Int32} (hq : 0 ≤ q) (hk : cF_addClosed a1 σ = some (v, σ2)) (h : cW b0 w0 pa sa σ w) (k : ∀ w2, cW b0 w0 pa sa σ2 w2 → Post none w2) : zOk S (q + 1) 47 0 (lv_args 0 [.ref (b0 + 10), .int a1]) [] w Post := by
  unfold cF_addClosed at hk
  refine zi_l rfl rfl rfl ?_
  refine zc_gv (o := 10) (n := 6) (v := .int (σ.1.1 0 5 0)) h rfl rfl rfl (by decide) (by decide) rfl ?_
  refine zi_ifd rfl rfl rfl (tgt := 19) (by decide) (fun c1 => ?_) (fun c1 => ?_)
  · rw [if_pos c1] at hk
    cases hk
    exact zi_ret rfl rfl rfl (k w h)
  · rw [if_neg c1] at hk
    refine zi_l rfl rfl rfl ?_
    refine zc_gv (o := 10) (n := 6) (v := .int (σ.1.1 0 5 0)) h rfl rfl rfl (by decide) (by decide) rfl ?_
    refine zi_l rfl rfl rfl ?_
    refine zc_gf (c := 0) (k := 3) (o := 10) (n := 6) (t := 14) h rfl rfl rfl (by decide) (by decide) ?_
    refine zc_len (o := 14) (c := 100) (n := 200) h rfl (by decide) rfl ?_
    refine zi_ifd rfl rfl rfl (tgt := 20) (by decide) (fun c2 => ?_) (fun c2 => ?_)
    · rw [if_pos c2] at hk
      refine zi_l rfl rfl rfl ?_
      refine zc_gf (c := 0) (k := 3) (o := 10) (n := 6) (t := 14) h rfl rfl rfl (by decide) (by decide) ?_
      refine zi_l rfl rfl rfl ?_
      refine zc_gv (o := 10) (n := 6) (v := .int (σ.1.1 0 5 0)) h rfl rfl rfl (by decide) (by decide) rfl ?_
      refine zi_l rfl rfl rfl ?_
      by_cases q3 : zix (σ.1.1 0 5 0) 200
      case neg => rw [if_neg q3] at hk; cases hk
      rw [if_pos q3] at hk
      refine zc_st (c := 19) (o := 14) (n := 200) h rfl (by decide) rfl rfl (by decide) rfl q3 (fun w h => ?_)
      generalize cu1 σ 19 0 ((σ.1.1 0 5 0)).toNatClampNeg a1 = m4 at h hk
      rw [cPut_eq] at hk
      refine zi_l rfl rfl rfl ?_
      refine zi_a rfl rfl rfl ?_
      refine zc_gv (o := 10) (n := 6) (v := .int (m4.1.1 0 5 0)) h rfl rfl rfl (by decide) (by decide) rfl ?_
      refine zi_a (st' := .int 1 :: _) rfl rfl rfl ?_
      refine zi_a rfl rfl rfl ?_
      refine zc_pv (o := 10) (n := 6) h rfl rfl rfl (by decide) (by decide) rfl ⟨rfl, rfl, Or.inl rfl⟩ (fun w h => ?_)
      generalize cu1 m4 0 5 0 ((m4.1.1 0 5 0) + (1 : Int32)) = m5 at h hk
      rw [cPut_eq] at hk
      cases hk
      exact zi_ret rfl rfl rfl (k w h)
    · rw [if_neg c2] at hk
      cases hk
      exact zi_ret rfl rfl rfl (k w h)
def cF_alarmAt (a1 : Int32) (a2 : Int32) (σ : cS) : Option (Int32 × cS) :=
  if a1 < 0 then (some ((-1 : Int32), σ)) else (if (σ.1.1 0 4 0) ≤ a1 then (some ((-1 : Int32), σ)) else (if a1 < (200 : Int32) then (if (a2).toInt < 0 ∨ 2 < (a2).toInt then (some ((-1 : Int32), σ)) else if a2 = 0 then (if zix a1 200 then some ((σ.1.1 16 0 (a1).toNatClampNeg), σ) else none) else if a2 = 1 then (if zix a1 200 then some ((σ.1.1 17 0 (a1).toNatClampNeg), σ) else none) else if a2 = 2 then (if zix a1 200 then some ((σ.1.1 18 0 (a1).toNatClampNeg), σ) else none) else none) else (some ((-1 : Int32), σ))))
theorem cT_alarmAt {S : zS} {q : Nat} {w w0 : zW} {Post : Option Value → zW → Prop} {b0 : Nat} {pa sa : Nat → Nat} {σ σ2 : cS} {v : Int32} {a1 : Int32} {a2 : Int32} (hq : 0 ≤ q) (hk : cF_alarmAt a1 a2 σ = some (v, σ2)) (h : cW b0 w0 pa sa σ w) (k : ∀ w2, cW b0 w0 pa sa σ2 w2 → Post (some (.int v)) w2) : zOk S (q + 1) 57 0 (lv_args 0 [.ref (b0 + 10), .int a1, .int a2]) [] w Post := by
  unfold cF_alarmAt at hk
  refine zi_l rfl rfl rfl ?_
  refine zi_ifd rfl rfl rfl (tgt := 19) (by decide) (fun c1 => ?_) (fun c1 => ?_)
  · rw [if_pos c1] at hk
    refine zi_a (st' := .int (-1) :: _) rfl rfl rfl ?_
    cases hk
    exact zi_ri rfl rfl (k w h)
  · rw [if_neg c1] at hk
    refine zi_l rfl rfl rfl ?_
    refine zi_l rfl rfl rfl ?_
    refine zc_gv (o := 10) (n := 6) (v := .int (σ.1.1 0 4 0)) h rfl rfl rfl (by decide) (by decide) rfl ?_
    refine zi_ifd rfl rfl rfl (tgt := 19) (by decide) (fun c2 => ?_) (fun c2 => ?_)
    · rw [if_pos c2] at hk
      refine zi_a (st' := .int (-1) :: _) rfl rfl rfl ?_
      cases hk
      exact zi_ri rfl rfl (k w h)
    · rw [if_neg c2] at hk
      refine zi_l rfl rfl rfl ?_
      refine zi_a (st' := .int 200 :: _) rfl rfl rfl ?_
      refine zi_ifd rfl rfl rfl (tgt := 21) (by decide) (fun c3 => ?_) (fun c3 => ?_)
      · rw [if_pos c3] at hk
        refine zi_l rfl rfl rfl ?_
        by_cases c4 : (a2).toInt < 0 ∨ 2 < (a2).toInt
        · rw [if_pos c4] at hk
          refine zi_sd rfl c4 (tgt := 69) (by decide) ?_
          refine zi_a (st' := .int (-1) :: _) rfl rfl rfl ?_
          cases hk
          exact zi_ri rfl rfl (k w h)
        rw [if_neg c4] at hk
        by_cases e5 : a2 = 0
        · rw [if_pos e5] at hk
          refine zi_si rfl c4 (off := 26) (by rw [e5]; rfl) (tgt := 48) (by decide) ?_
          refine zi_l rfl rfl rfl ?_
          refine zc_gf (c := 0) (k := 0) (o := 10) (n := 6) (t := 11) h rfl rfl rfl (by decide) (by decide) ?_
          refine zi_l rfl rfl rfl ?_
          by_cases q6 : zix a1 200
          case neg => rw [if_neg q6] at hk; cases hk
          rw [if_pos q6] at hk
          refine zc_ld (c := 16) (o := 11) (n := 200) h rfl (by decide) rfl rfl (by decide) rfl q6 ?_
          cases hk
          exact zi_ri rfl rfl (k w h)
        rw [if_neg e5] at hk
        by_cases e7 : a2 = 1
        · rw [if_pos e7] at hk
          refine zi_si rfl c4 (off := 33) (by rw [e7]; rfl) (tgt := 55) (by decide) ?_
          refine zi_l rfl rfl rfl ?_
          refine zc_gf (c := 0) (k := 1) (o := 10) (n := 6) (t := 12) h rfl rfl rfl (by decide) (by decide) ?_
          refine zi_l rfl rfl rfl ?_
          by_cases q8 : zix a1 200
          case neg => rw [if_neg q8] at hk; cases hk
          rw [if_pos q8] at hk
          refine zc_ld (c := 17) (o := 12) (n := 200) h rfl (by decide) rfl rfl (by decide) rfl q8 ?_
          cases hk
          exact zi_ri rfl rfl (k w h)
        rw [if_neg e7] at hk
        by_cases e9 : a2 = 2
        · rw [if_pos e9] at hk
          refine zi_si rfl c4 (off := 40) (by rw [e9]; rfl) (tgt := 62) (by decide) ?_
          refine zi_l rfl rfl rfl ?_
          refine zc_gf (c := 0) (k := 2) (o := 10) (n := 6) (t := 13) h rfl rfl rfl (by decide) (by decide) ?_
          refine zi_l rfl rfl rfl ?_
          by_cases q10 : zix a1 200
          case neg => rw [if_neg q10] at hk; cases hk
          rw [if_pos q10] at hk
          refine zc_ld (c := 18) (o := 13) (n := 200) h rfl (by decide) rfl rfl (by decide) rfl q10 ?_
          cases hk
          exact zi_ri rfl rfl (k w h)
        rw [if_neg e9] at hk
        cases hk
      · rw [if_neg c3] at hk
        refine zi_a (st' := .int (-1) :: _) rfl rfl rfl ?_
        cases hk
        exact zi_ri rfl rfl (k w h)
def cF_closedAt (a1 : Int32) (σ : cS) : Option (Int32 × cS) :=
  if a1 < 0 then (some ((-1 : Int32), σ)) else (if (σ.1.1 0 5 0) ≤ a1 then (some ((-1 : Int32), σ)) else (if (Int32.ofNat 200) ≤ a1 then (some ((-1 : Int32), σ)) else (if zix a1 200 then some ((σ.1.1 19 0 (a1).toNatClampNeg), σ) else none)))
theorem cT_closedAt {S : zS} {q : Nat} {w w0 : zW} {Post : Option Value → zW → Prop} {b0 : Nat} {pa sa : Nat → Nat} {σ σ2 : cS} {v : Int32} {a1 : Int32} (hq : 0 ≤ q) (hk : cF_closedAt a1 σ = some (v, σ2)) (h : cW b0 w0 pa sa σ w) (k : ∀ w2, cW b0 w0 pa sa σ2 w2 → Post (some (.int v)) w2) : zOk S (q + 1) 65 0 (lv_args 0 [.ref (b0 + 10), .int a1]) [] w Post := by
  unfold cF_closedAt at hk
  refine zi_l rfl rfl rfl ?_
  refine zi_ifd rfl rfl rfl (tgt := 30) (by decide) (fun c1 => ?_) (fun c1 => ?_)
  · rw [if_pos c1] at hk
    refine zi_a (st' := .int (-1) :: _) rfl rfl rfl ?_
    cases hk
    exact zi_ri rfl rfl (k w h)
  · rw [if_neg c1] at hk
    refine zi_l rfl rfl rfl ?_
    refine zi_l rfl rfl rfl ?_
    refine zc_gv (o := 10) (n := 6) (v := .int (σ.1.1 0 5 0)) h rfl rfl rfl (by decide) (by decide) rfl ?_
    refine zi_ifd rfl rfl rfl (tgt := 30) (by decide) (fun c2 => ?_) (fun c2 => ?_)
    · rw [if_pos c2] at hk
      refine zi_a (st' := .int (-1) :: _) rfl rfl rfl ?_
      cases hk
      exact zi_ri rfl rfl (k w h)
    · rw [if_neg c2] at hk
      refine zi_l rfl rfl rfl ?_
      refine zi_l rfl rfl rfl ?_
      refine zc_gf (c := 0) (k := 3) (o := 10) (n := 6) (t := 14) h rfl rfl rfl (by decide) (by decide) ?_
      refine zc_len (o := 14) (c := 100) (n := 200) h rfl (by decide) rfl ?_
      refine zi_ifd rfl rfl rfl (tgt := 30) (by decide) (fun c3 => ?_) (fun c3 => ?_)
      · rw [if_pos c3] at hk
        refine zi_a (st' := .int (-1) :: _) rfl rfl rfl ?_
        cases hk
        exact zi_ri rfl rfl (k w h)
      · rw [if_neg c3] at hk
        refine zi_l rfl rfl rfl ?_
        refine zc_gf (c := 0) (k := 3) (o := 10) (n := 6) (t := 14) h rfl rfl rfl (by decide) (by decide) ?_
        refine zi_l rfl rfl rfl ?_
        by_cases q4 : zix a1 200
        case neg => rw [if_neg q4] at hk; cases hk
        rw [if_pos q4] at hk
        refine zc_ld (c := 19) (o := 14) (n := 200) h rfl (by decide) rfl rfl (by decide) rfl q4 ?_
        refine zi_go rfl rfl rfl (tgt := 31) (by decide) ?_
        cases hk
        exact zi_ri rfl rfl (k w h)
def cF_isOpen_16 (σ : cS) : Option (Int32 × cS) :=
  some ((1 : Int32), σ)
theorem cT_isOpen_16 {S : zS} {q : Nat} {w w0 : zW} {Post : Option Value → zW → Prop} {b0 : Nat} {pa sa : Nat → Nat} {σ σ2 : cS} {v : Int32} (hq : 0 ≤ q) (hk : cF_isOpen_16  σ = some (v, σ2)) (h : cW b0 w0 pa sa σ w) (k : ∀ w2, cW b0 w0 pa sa σ2 w2 → Post (some (.int v)) w2) : zOk S (q + 1) 37 16 [] [] w Post := by
  unfold cF_isOpen_16 at hk
  refine zi_a (st' := .int 1 :: _) rfl rfl rfl ?_
  refine zi_go rfl rfl rfl (tgt := 21) (by decide) ?_
  cases hk
  exact zi_rz rfl rfl (Or.inr rfl) (k w h)
def cF_isOpen (a0 : Nat) (σ : cS) : Option (Int32 × cS) :=
  if a0 < σ.2.2.1 then if (σ.1.1 3 7 a0) = (1 : Int32) then (cF_isOpen_16   σ) else (if a0 < σ.2.2.1 then if ¬ (σ.1.1 3 7 a0) = (2 : Int32) then (some ((0 : Int32), σ)) else (cF_isOpen_16   σ) else none) else none
theorem cT_isOpen {S : zS} {q : Nat} {w w0 : zW} {Post : Option Value → zW → Prop} {b0 : Nat} {pa sa : Nat → Nat} {σ σ2 : cS} {v : Int32} {a0 : Nat} (hq : 0 ≤ q) (hk : cF_isOpen a0 σ = some (v, σ2)) (h : cW b0 w0 pa sa σ w) (k : ∀ w2, cW b0 w0 pa sa σ2 w2 → Post (some (.int v)) w2) : zOk S (q + 1) 37 0 (lv_args 0 [.ref (sa a0)]) [] w Post := by
  unfold cF_isOpen at hk
  refine zi_l rfl rfl rfl ?_
  by_cases q1 : a0 < σ.2.2.1
  case neg => rw [if_neg q1] at hk; cases hk
  rw [if_pos q1] at hk
  refine zc_gS (v := .int (σ.1.1 3 7 a0)) h rfl rfl rfl q1 rfl ?_
  refine zi_a (st' := .int 1 :: _) rfl rfl rfl ?_
  refine zi_ifd rfl rfl rfl (tgt := 16) (by decide) (fun c2 => ?_) (fun c2 => ?_)
  · rw [if_pos c2] at hk
    refine zk_sub [] rfl rfl ?_
    exact cT_isOpen_16 hq hk h k
  · rw [if_neg c2] at hk
    refine zi_l rfl rfl rfl ?_
    by_cases q3 : a0 < σ.2.2.1
    case neg => rw [if_neg q3] at hk; cases hk
    rw [if_pos q3] at hk
    refine zc_gS (v := .int (σ.1.1 3 7 a0)) h rfl rfl rfl q3 rfl ?_
    refine zi_a (st' := .int 2 :: _) rfl rfl rfl ?_
    refine zi_ifd rfl rfl rfl (tgt := 20) (by decide) (fun c4 => ?_) (fun c4 => ?_)
    · rw [if_pos c4] at hk
      refine zi_a (st' := .int 0 :: _) rfl rfl rfl ?_
      cases hk
      exact zi_rz rfl rfl (Or.inl rfl) (k w h)
    · rw [if_neg c4] at hk
      refine zk_sub [] rfl rfl ?_
      exact cT_isOpen_16 hq hk h k
def cF_standsStill_43 (σ : cS) : Option (Int32 × cS) :=
  some ((1 : Int32), σ)
theorem cT_standsStill_43 {S : zS} {q : Nat} {w w0 : zW} {Post : Option Value → zW → Prop} {b0 : Nat} {pa sa : Nat → Nat} {σ σ2 : cS} {v : Int32} (hq : 1 ≤ q) (hk : cF_standsStill_43  σ = some (v, σ2)) (h : cW b0 w0 pa sa σ w) (k : ∀ w2, cW b0 w0 pa sa σ2 w2 → Post (some (.int v)) w2) : zOk S (q + 1) 55 43 [] [] w Post := by
  unfold cF_standsStill_43 at hk
  refine zi_a (st' := .int 1 :: _) rfl rfl rfl ?_
  refine zi_go rfl rfl rfl (tgt := 48) (by decide) ?_
  cases hk
  exact zi_rz rfl rfl (Or.inr rfl) (k w h)
def cF_standsStill (a0 : Nat) (σ : cS) : Option (Int32 × cS) :=
  if a0 < σ.2.2.1 then match cF_isOpen a0 σ with | none => none | some (v3, m4) => if v3 = 0 then (some ((0 : Int32), m4)) else (if a0 < m4.2.2.1 then if (m4.1.1 3 0 a0) = (13 : Int32) then (cF_standsStill_43   m4) else (if a0 < m4.2.2.1 then if (m4.1.1 3 0 a0) = (14 : Int32) then (cF_standsStill_43   m4) else (if a0 < m4.2.2.1 then if (m4.1.1 3 0 a0) = (19 : Int32) then (cF_standsStill_43   m4) else (if a0 < m4.2.2.1 then if ¬ (m4.1.1 3 0 a0) = (20 : Int32) then (some ((0 : Int32), m4)) else (cF_standsStill_43   m4) else none) else none) else none) else none) else none
theorem cT_standsStill {S : zS} {q : Nat} {w w0 : zW} {Post : Option Value → zW → Prop} {b0 : Nat} {pa sa : Nat → Nat} {σ σ2 : cS} {v : Int32} {a0 : Nat} (hq : 1 ≤ q) (hk : cF_standsStill a0 σ = some (v, σ2)) (h : cW b0 w0 pa sa σ w) (k : ∀ w2, cW b0 w0 pa sa σ2 w2 → Post (some (.int v)) w2) : zOk S (q + 1) 55 0 (lv_args 0 [.ref (sa a0)]) [] w Post := by
  unfold cF_standsStill at hk
  refine zi_l rfl rfl rfl ?_
  by_cases q1 : a0 < σ.2.2.1
  case neg => rw [if_neg q1] at hk; cases hk
  rw [if_pos q1] at hk
  cases c2 : cF_isOpen a0 σ with
  | none => rw [c2] at hk; cases hk
  | some q1 =>
    obtain ⟨v3, m4⟩ := q1
    rw [c2] at hk
    dsimp only at hk
    refine zi_v rfl rfl rfl (h.shS q1) rfl rfl rfl (zOk.deep (cT_isOpen (q := 0) (by omega) c2 h (fun w h => ?_)) (by omega))
    refine zi_ifd rfl rfl rfl (tgt := 47) (by decide) (fun c5 => ?_) (fun c5 => ?_)
    · rw [if_pos c5] at hk
      refine zi_a (st' := .int 0 :: _) rfl rfl rfl ?_
      cases hk
      exact zi_rz rfl rfl (Or.inl rfl) (k w h)
    · rw [if_neg c5] at hk
      refine zi_l rfl rfl rfl ?_
      by_cases q6 : a0 < m4.2.2.1
      case neg => rw [if_neg q6] at hk; cases hk
      rw [if_pos q6] at hk
      refine zc_gS (v := .int (m4.1.1 3 0 a0)) h rfl rfl rfl q6 rfl ?_
      refine zi_a (st' := .int 13 :: _) rfl rfl rfl ?_
      refine zi_ifd rfl rfl rfl (tgt := 43) (by decide) (fun c7 => ?_) (fun c7 => ?_)
      · rw [if_pos c7] at hk
        refine zk_sub [] rfl rfl ?_
        exact cT_standsStill_43 hq hk h k
      · rw [if_neg c7] at hk
        refine zi_l rfl rfl rfl ?_
        by_cases q8 : a0 < m4.2.2.1
        case neg => rw [if_neg q8] at hk; cases hk
        rw [if_pos q8] at hk
        refine zc_gS (v := .int (m4.1.1 3 0 a0)) h rfl rfl rfl q8 rfl ?_
        refine zi_a (st' := .int 14 :: _) rfl rfl rfl ?_
        refine zi_ifd rfl rfl rfl (tgt := 43) (by decide) (fun c9 => ?_) (fun c9 => ?_)
        · rw [if_pos c9] at hk
          refine zk_sub [] rfl rfl ?_
          exact cT_standsStill_43 hq hk h k
        · rw [if_neg c9] at hk
          refine zi_l rfl rfl rfl ?_
          by_cases q10 : a0 < m4.2.2.1
          case neg => rw [if_neg q10] at hk; cases hk
          rw [if_pos q10] at hk
          refine zc_gS (v := .int (m4.1.1 3 0 a0)) h rfl rfl rfl q10 rfl ?_
          refine zi_a (st' := .int 19 :: _) rfl rfl rfl ?_
          refine zi_ifd rfl rfl rfl (tgt := 43) (by decide) (fun c11 => ?_) (fun c11 => ?_)
          · rw [if_pos c11] at hk
            refine zk_sub [] rfl rfl ?_
            exact cT_standsStill_43 hq hk h k
          · rw [if_neg c11] at hk
            refine zi_l rfl rfl rfl ?_
            by_cases q12 : a0 < m4.2.2.1
            case neg => rw [if_neg q12] at hk; cases hk
            rw [if_pos q12] at hk
            refine zc_gS (v := .int (m4.1.1 3 0 a0)) h rfl rfl rfl q12 rfl ?_
            refine zi_a (st' := .int 20 :: _) rfl rfl rfl ?_
            refine zi_ifd rfl rfl rfl (tgt := 47) (by decide) (fun c13 => ?_) (fun c13 => ?_)
            · rw [if_pos c13] at hk
              refine zi_a (st' := .int 0 :: _) rfl rfl rfl ?_
              cases hk
              exact zi_rz rfl rfl (Or.inl rfl) (k w h)
            · rw [if_neg c13] at hk
              refine zk_sub [] rfl rfl ?_
              exact cT_standsStill_43 hq hk h k
def cF_renew (a1 : Option Nat) (σ : cS) : Option (Unit × cS) :=
  match a1 with | none => (some ((), σ)) | some i1 => (if i1 < σ.2.2.1 then cPut (cu1 σ 3 7 i1 (0 : Int32)) fun m2 => some ((), m2) else none)
theorem cT_renew {S : zS} {q : Nat} {w w0 : zW} {Post : Option Value → zW → Prop} {b0 : Nat} {pa sa : Nat → Nat} {σ σ2 : cS} {v : Unit} {a1 : Option Nat} (hq : 0 ≤ q) (hk : cF_renew a1 σ = some (v, σ2)) (h : cW b0 w0 pa sa σ w) (k : ∀ w2, cW b0 w0 pa sa σ2 w2 → Post none w2) : zOk S (q + 1) 41 0 (lv_args 0 [cr sa a1]) [] w Post := by
  unfold cF_renew at hk
  cases a1 with
  | none =>
    dsimp only at hk
    refine zi_l rfl rfl rfl ?_
    refine zi_go rfl rfl rfl (tgt := 9) (by decide) ?_
    cases hk
    exact zi_ret rfl rfl rfl (k w h)
  | some i1 =>
    dsimp only at hk
    refine zi_l rfl rfl rfl ?_
    refine zi_stay rfl rfl rfl (tgt := 9) (by decide) ?_
    refine zi_l rfl rfl rfl ?_
    refine zi_a (st' := .int 0 :: _) rfl rfl rfl ?_
    by_cases q1 : i1 < σ.2.2.1
    case neg => rw [if_neg q1] at hk; cases hk
    rw [if_pos q1] at hk
    refine zc_pS1 h rfl rfl rfl q1 rfl ⟨rfl, rfl, Or.inl rfl⟩ (fun w h => ?_)
    generalize cu1 σ 3 7 i1 (0 : Int32) = m2 at h hk
    rw [cPut_eq] at hk
    cases hk
    exact zi_ret rfl rfl rfl (k w h)
def cF_open (a0 : Nat) (a1 : Int32) (a2 : Int64) (a3 : Int64) (σ : cS) : Option (Unit × cS) :=
  if a0 < σ.2.2.1 then cPut (cu1 σ 3 8 a0 a1) fun m2 => if a0 < m2.2.2.1 then cPut (cu2 m2 3 9 a0 a2) fun m4 => if a0 < m4.2.2.1 then cPut (cu2 m4 3 10 a0 a3) fun m6 => if a0 < m6.2.2.1 then cPut (cu1 m6 3 12 a0 (0 : Int32)) fun m8 => if a0 < m8.2.2.1 then cPut (cu1 m8 3 7 a0 (1 : Int32)) fun m10 => if a0 < m10.2.2.1 then match cF_renew (m10.1.2.2 3 5 a0) m10 with | none => none | some (v13, m14) => if a0 < m14.2.2.1 then match cF_renew (m14.1.2.2 3 6 a0) m14 with | none => none | some (v17, m18) => some ((), m18) else none else none else none else none else none else none else none
theorem cT_open {S : zS} {q : Nat} {w w0 : zW} {Post : Option Value → zW → Prop} {b0 : Nat} {pa sa : Nat → Nat} {σ σ2 : cS} {v : Unit} {a0 : Nat} {a1 : Int32} {a2 : Int64} {a3 : Int64} (hq : 1 ≤ q) (hk : cF_open a0 a1 a2 a3 σ = some (v, σ2)) (h : cW b0 w0 pa sa σ w) (k : ∀ w2, cW b0 w0 pa sa σ2 w2 → Post none w2) : zOk S (q + 1) 40 0 (lv_args 0 [.ref (sa a0), .int a1, .long a2, .long a3]) [] w Post := by
  unfold cF_open at hk
  refine zi_l rfl rfl rfl ?_
  refine zi_l rfl rfl rfl ?_
  by_cases q1 : a0 < σ.2.2.1
  case neg => rw [if_neg q1] at hk; cases hk
  rw [if_pos q1] at hk
  refine zc_pS1 h rfl rfl rfl q1 rfl ⟨rfl, rfl, Or.inl rfl⟩ (fun w h => ?_)
  generalize cu1 σ 3 8 a0 a1 = m2 at h hk
  rw [cPut_eq] at hk
  refine zi_l rfl rfl rfl ?_
  refine zi_l rfl rfl rfl ?_
  by_cases q3 : a0 < m2.2.2.1
  case neg => rw [if_neg q3] at hk; cases hk
  rw [if_pos q3] at hk
  refine zc_pS2 h rfl rfl rfl q3 rfl ⟨rfl, rfl, Or.inl rfl⟩ (fun w h => ?_)
  generalize cu2 m2 3 9 a0 a2 = m4 at h hk
  rw [cPut_eq] at hk
  refine zi_l rfl rfl rfl ?_
  refine zi_l rfl rfl rfl ?_
  by_cases q5 : a0 < m4.2.2.1
  case neg => rw [if_neg q5] at hk; cases hk
  rw [if_pos q5] at hk
  refine zc_pS2 h rfl rfl rfl q5 rfl ⟨rfl, rfl, Or.inl rfl⟩ (fun w h => ?_)
  generalize cu2 m4 3 10 a0 a3 = m6 at h hk
  rw [cPut_eq] at hk
  refine zi_l rfl rfl rfl ?_
  refine zi_a (st' := .int 0 :: _) rfl rfl rfl ?_
  by_cases q7 : a0 < m6.2.2.1
  case neg => rw [if_neg q7] at hk; cases hk
  rw [if_pos q7] at hk
  refine zc_pS1 h rfl rfl rfl q7 rfl ⟨rfl, rfl, Or.inl rfl⟩ (fun w h => ?_)
  generalize cu1 m6 3 12 a0 (0 : Int32) = m8 at h hk
  rw [cPut_eq] at hk
  refine zi_l rfl rfl rfl ?_
  refine zi_a (st' := .int 1 :: _) rfl rfl rfl ?_
  by_cases q9 : a0 < m8.2.2.1
  case neg => rw [if_neg q9] at hk; cases hk
  rw [if_pos q9] at hk
  refine zc_pS1 h rfl rfl rfl q9 rfl ⟨rfl, rfl, Or.inl rfl⟩ (fun w h => ?_)
  generalize cu1 m8 3 7 a0 (1 : Int32) = m10 at h hk
  rw [cPut_eq] at hk
  refine zi_l rfl rfl rfl ?_
  by_cases q11 : a0 < m10.2.2.1
  case neg => rw [if_neg q11] at hk; cases hk
  rw [if_pos q11] at hk
  refine zc_gS (v := cr sa (m10.1.2.2 3 5 a0)) h rfl rfl rfl q11 rfl ?_
  cases c12 : cF_renew (m10.1.2.2 3 5 a0) m10 with
  | none => rw [c12] at hk; cases hk
  | some q1 =>
    obtain ⟨v13, m14⟩ := q1
    rw [c12] at hk
    dsimp only at hk
    refine zi_s rfl rfl rfl rfl (by generalize (m10.1.2.2 3 5 a0) = o0; cases o0 <;> rfl) (zOk.deep (cT_renew (q := 0) (by omega) c12 h (fun w h => ?_)) (by omega))
    refine zi_l rfl rfl rfl ?_
    by_cases q15 : a0 < m14.2.2.1
    case neg => rw [if_neg q15] at hk; cases hk
    rw [if_pos q15] at hk
    refine zc_gS (v := cr sa (m14.1.2.2 3 6 a0)) h rfl rfl rfl q15 rfl ?_
    cases c16 : cF_renew (m14.1.2.2 3 6 a0) m14 with
    | none => rw [c16] at hk; cases hk
    | some q1 =>
      obtain ⟨v17, m18⟩ := q1
      rw [c16] at hk
      dsimp only at hk
      refine zi_s rfl rfl rfl rfl (by generalize (m14.1.2.2 3 6 a0) = o0; cases o0 <;> rfl) (zOk.deep (cT_renew (q := 0) (by omega) c16 h (fun w h => ?_)) (by omega))
      cases hk
      exact zi_ret rfl rfl rfl (k w h)
def cF_isLive_15 (σ : cS) : Option (Int32 × cS) :=
  some ((1 : Int32), σ)
theorem cT_isLive_15 {S : zS} {q : Nat} {w w0 : zW} {Post : Option Value → zW → Prop} {b0 : Nat} {pa sa : Nat → Nat} {σ σ2 : cS} {v : Int32} (hq : 0 ≤ q) (hk : cF_isLive_15  σ = some (v, σ2)) (h : cW b0 w0 pa sa σ w) (k : ∀ w2, cW b0 w0 pa sa σ2 w2 → Post (some (.int v)) w2) : zOk S (q + 1) 54 15 [] [] w Post := by
  unfold cF_isLive_15 at hk
  refine zi_a (st' := .int 1 :: _) rfl rfl rfl ?_
  refine zi_go rfl rfl rfl (tgt := 20) (by decide) ?_
  cases hk
  exact zi_rz rfl rfl (Or.inr rfl) (k w h)
def cF_isLive (σ : cS) : Option (Int32 × cS) :=
  if (σ.1.1 4 5 0) = 0 then (cF_isLive_15   σ) else (if ¬ (σ.1.1 4 5 0) = (2 : Int32) then (some ((0 : Int32), σ)) else (cF_isLive_15   σ))
theorem cT_isLive {S : zS} {q : Nat} {w w0 : zW} {Post : Option Value → zW → Prop} {b0 : Nat} {pa sa : Nat → Nat} {σ σ2 : cS} {v : Int32} (hq : 0 ≤ q) (hk : cF_isLive  σ = some (v, σ2)) (h : cW b0 w0 pa sa σ w) (k : ∀ w2, cW b0 w0 pa sa σ2 w2 → Post (some (.int v)) w2) : zOk S (q + 1) 54 0 (lv_args 0 [.ref (b0 + 3)]) [] w Post := by
  unfold cF_isLive at hk
  refine zi_l rfl rfl rfl ?_
  refine zc_gv (o := 3) (n := 10) (v := .int (σ.1.1 4 5 0)) h rfl rfl rfl (by decide) (by decide) rfl ?_
  refine zi_ifd rfl rfl rfl (tgt := 15) (by decide) (fun c1 => ?_) (fun c1 => ?_)
  · rw [if_pos c1] at hk
    refine zk_sub [] rfl rfl ?_
    exact cT_isLive_15 hq hk h k
  · rw [if_neg c1] at hk
    refine zi_l rfl rfl rfl ?_
    refine zc_gv (o := 3) (n := 10) (v := .int (σ.1.1 4 5 0)) h rfl rfl rfl (by decide) (by decide) rfl ?_
    refine zi_a (st' := .int 2 :: _) rfl rfl rfl ?_
    refine zi_ifd rfl rfl rfl (tgt := 19) (by decide) (fun c2 => ?_) (fun c2 => ?_)
    · rw [if_pos c2] at hk
      refine zi_a (st' := .int 0 :: _) rfl rfl rfl ?_
      cases hk
      exact zi_rz rfl rfl (Or.inl rfl) (k w h)
    · rw [if_neg c2] at hk
      refine zk_sub [] rfl rfl ?_
      exact cT_isLive_15 hq hk h k
def cF_takeParts_108 (l1 : Nat) (l2 : Int32) (l3 : Int32) (σ : cS) : Option (Int32 × cS) :=
  match cF_partAt l2 σ with | none => none | some (v2, m3) => if l1 < m3.2.1 then match cF_takeExpression l1 v2 m3 with | none => none | some (v6, m7) => if v6 = 0 then (some ((0 : Int32), m7)) else (match cF_partAt l3 m7 with | none => none | some (v10, m11) => if l1 < m11.2.1 then match cF_takeExpression l1 v10 m11 with | none => none | some (v14, m15) => if v14 = 0 then (some ((0 : Int32), m15)) else (some ((1 : Int32), m15)) else none) else none
theorem cT_takeParts_108 {S : zS} {q : Nat} {w w0 : zW} {Post : Option Value → zW → Prop} {b0 : Nat} {pa sa : Nat → Nat} {σ σ2 : cS} {v : Int32} {l1 : Nat} {l2 : Int32} {l3 : Int32} (hq : 3 ≤ q) (hk : cF_takeParts_108 l1 l2 l3 σ = some (v, σ2)) (h : cW b0 w0 pa sa σ w) (k : ∀ w2, cW b0 w0 pa sa σ2 w2 → Post (some (.int v)) w2) : zOk S (q + 1) 12 108 [(0, .ref (b0 + 1)), (1, .ref (pa l1)), (2, .int l2), (3, .int l3)] [] w Post := by
  unfold cF_takeParts_108 at hk
  refine zi_l rfl rfl rfl ?_
  refine zi_l rfl rfl rfl ?_
  refine zi_l rfl rfl rfl ?_
  cases c1 : cF_partAt l2 σ with
  | none => rw [c1] at hk; cases hk
  | some q1 =>
    obtain ⟨v2, m3⟩ := q1
    rw [c1] at hk
    dsimp only at hk
    refine zi_v rfl rfl rfl (h.sh (o := 1) (c := 2) (n := 2) (by decide)) rfl rfl rfl (zOk.deep (cT_partAt (q := 0) (by omega) c1 h (fun w h => ?_)) (by omega))
    by_cases q4 : l1 < m3.2.1
    case neg => rw [if_neg q4] at hk; cases hk
    rw [if_pos q4] at hk
    cases c5 : cF_takeExpression l1 v2 m3 with
    | none => rw [c5] at hk; cases hk
    | some q1 =>
      obtain ⟨v6, m7⟩ := q1
      rw [c5] at hk
      dsimp only at hk
      refine zi_v rfl rfl rfl (h.shP q4) rfl rfl (by generalize v2 = o0; cases o0 <;> rfl) (zOk.deep (cT_takeExpression (q := 1) (by omega) c5 h (fun w h => ?_)) (by omega))
      refine zi_ifd rfl rfl rfl (tgt := 136) (by decide) (fun c8 => ?_) (fun c8 => ?_)
      · rw [if_pos c8] at hk
        refine zi_a (st' := .int 0 :: _) rfl rfl rfl ?_
        cases hk
        exact zi_rz rfl rfl (Or.inl rfl) (k w h)
      · rw [if_neg c8] at hk
        refine zi_l rfl rfl rfl ?_
        refine zi_l rfl rfl rfl ?_
        refine zi_l rfl rfl rfl ?_
        cases c9 : cF_partAt l3 m7 with
        | none => rw [c9] at hk; cases hk
        | some q1 =>
          obtain ⟨v10, m11⟩ := q1
          rw [c9] at hk
          dsimp only at hk
          refine zi_v rfl rfl rfl (h.sh (o := 1) (c := 2) (n := 2) (by decide)) rfl rfl rfl (zOk.deep (cT_partAt (q := 0) (by omega) c9 h (fun w h => ?_)) (by omega))
          by_cases q12 : l1 < m11.2.1
          case neg => rw [if_neg q12] at hk; cases hk
          rw [if_pos q12] at hk
          cases c13 : cF_takeExpression l1 v10 m11 with
          | none => rw [c13] at hk; cases hk
          | some q1 =>
            obtain ⟨v14, m15⟩ := q1
            rw [c13] at hk
            dsimp only at hk
            refine zi_v rfl rfl rfl (h.shP q12) rfl rfl (by generalize v10 = o0; cases o0 <;> rfl) (zOk.deep (cT_takeExpression (q := 1) (by omega) c13 h (fun w h => ?_)) (by omega))
            refine zi_ifd rfl rfl rfl (tgt := 136) (by decide) (fun c16 => ?_) (fun c16 => ?_)
            · rw [if_pos c16] at hk
              refine zi_a (st' := .int 0 :: _) rfl rfl rfl ?_
              cases hk
              exact zi_rz rfl rfl (Or.inl rfl) (k w h)
            · rw [if_neg c16] at hk
              refine zi_a (st' := .int 1 :: _) rfl rfl rfl ?_
              refine zi_go rfl rfl rfl (tgt := 137) (by decide) ?_
              cases hk
              exact zi_rz rfl rfl (Or.inr rfl) (k w h)
def cF_takeParts_138 (l1 : Nat) (l2 : Int32) (l3 : Int32) (σ : cS) : Option (Int32 × cS) :=
  match cF_partAt l2 σ with | none => none | some (v2, m3) => if l1 < m3.2.1 then match cF_takeStatement l1 v2 m3 with | none => none | some (v6, m7) => if v6 = 0 then (some ((0 : Int32), m7)) else (match cF_partAt l3 m7 with | none => none | some (v10, m11) => if l1 < m11.2.1 then match cF_takeStatement l1 v10 m11 with | none => none | some (v14, m15) => if v14 = 0 then (some ((0 : Int32), m15)) else (some ((1 : Int32), m15)) else none) else none
theorem cT_takeParts_138 {S : zS} {q : Nat} {w w0 : zW} {Post : Option Value → zW → Prop} {b0 : Nat} {pa sa : Nat → Nat} {σ σ2 : cS} {v : Int32} {l1 : Nat} {l2 : Int32} {l3 : Int32} (hq : 3 ≤ q) (hk : cF_takeParts_138 l1 l2 l3 σ = some (v, σ2)) (h : cW b0 w0 pa sa σ w) (k : ∀ w2, cW b0 w0 pa sa σ2 w2 → Post (some (.int v)) w2) : zOk S (q + 1) 12 138 [(0, .ref (b0 + 1)), (1, .ref (pa l1)), (2, .int l2), (3, .int l3)] [] w Post := by
  unfold cF_takeParts_138 at hk
  refine zi_l rfl rfl rfl ?_
  refine zi_l rfl rfl rfl ?_
  refine zi_l rfl rfl rfl ?_
  cases c1 : cF_partAt l2 σ with
  | none => rw [c1] at hk; cases hk
  | some q1 =>
    obtain ⟨v2, m3⟩ := q1
    rw [c1] at hk
    dsimp only at hk
    refine zi_v rfl rfl rfl (h.sh (o := 1) (c := 2) (n := 2) (by decide)) rfl rfl rfl (zOk.deep (cT_partAt (q := 0) (by omega) c1 h (fun w h => ?_)) (by omega))
    by_cases q4 : l1 < m3.2.1
    case neg => rw [if_neg q4] at hk; cases hk
    rw [if_pos q4] at hk
    cases c5 : cF_takeStatement l1 v2 m3 with
    | none => rw [c5] at hk; cases hk
    | some q1 =>
      obtain ⟨v6, m7⟩ := q1
      rw [c5] at hk
      dsimp only at hk
      refine zi_v rfl rfl rfl (h.shP q4) rfl rfl (by generalize v2 = o0; cases o0 <;> rfl) (zOk.deep (cT_takeStatement (q := 1) (by omega) c5 h (fun w h => ?_)) (by omega))
      refine zi_ifd rfl rfl rfl (tgt := 166) (by decide) (fun c8 => ?_) (fun c8 => ?_)
      · rw [if_pos c8] at hk
        refine zi_a (st' := .int 0 :: _) rfl rfl rfl ?_
        cases hk
        exact zi_rz rfl rfl (Or.inl rfl) (k w h)
      · rw [if_neg c8] at hk
        refine zi_l rfl rfl rfl ?_
        refine zi_l rfl rfl rfl ?_
        refine zi_l rfl rfl rfl ?_
        cases c9 : cF_partAt l3 m7 with
        | none => rw [c9] at hk; cases hk
        | some q1 =>
          obtain ⟨v10, m11⟩ := q1
          rw [c9] at hk
          dsimp only at hk
          refine zi_v rfl rfl rfl (h.sh (o := 1) (c := 2) (n := 2) (by decide)) rfl rfl rfl (zOk.deep (cT_partAt (q := 0) (by omega) c9 h (fun w h => ?_)) (by omega))
          by_cases q12 : l1 < m11.2.1
          case neg => rw [if_neg q12] at hk; cases hk
          rw [if_pos q12] at hk
          cases c13 : cF_takeStatement l1 v10 m11 with
          | none => rw [c13] at hk; cases hk
          | some q1 =>
            obtain ⟨v14, m15⟩ := q1
            rw [c13] at hk
            dsimp only at hk
            refine zi_v rfl rfl rfl (h.shP q12) rfl rfl (by generalize v10 = o0; cases o0 <;> rfl) (zOk.deep (cT_takeStatement (q := 1) (by omega) c13 h (fun w h => ?_)) (by omega))
            refine zi_ifd rfl rfl rfl (tgt := 166) (by decide) (fun c16 => ?_) (fun c16 => ?_)
            · rw [if_pos c16] at hk
              refine zi_a (st' := .int 0 :: _) rfl rfl rfl ?_
              cases hk
              exact zi_rz rfl rfl (Or.inl rfl) (k w h)
            · rw [if_neg c16] at hk
              refine zi_a (st' := .int 1 :: _) rfl rfl rfl ?_
              refine zi_go rfl rfl rfl (tgt := 167) (by decide) ?_
              cases hk
              exact zi_rz rfl rfl (Or.inr rfl) (k w h)
def cF_takeParts_168 (l1 : Nat) (l2 : Int32) (l3 : Int32) (σ : cS) : Option (Int32 × cS) :=
  if l1 < σ.2.1 then match cF_takePlace l1 l2 σ with | none => none | some (v3, m4) => if v3 = 0 then (some ((0 : Int32), m4)) else (match cF_partAt l3 m4 with | none => none | some (v7, m8) => if l1 < m8.2.1 then match cF_takeExpression l1 v7 m8 with | none => none | some (v11, m12) => if v11 = 0 then (some ((0 : Int32), m12)) else (some ((1 : Int32), m12)) else none) else none
theorem cT_takeParts_168 {S : zS} {q : Nat} {w w0 : zW} {Post : Option Value → zW → Prop} {b0 : Nat} {pa sa : Nat → Nat} {σ σ2 : cS} {v : Int32} {l1 : Nat} {l2 : Int32} {l3 : Int32} (hq : 3 ≤ q) (hk : cF_takeParts_168 l1 l2 l3 σ = some (v, σ2)) (h : cW b0 w0 pa sa σ w) (k : ∀ w2, cW b0 w0 pa sa σ2 w2 → Post (some (.int v)) w2) : zOk S (q + 1) 12 168 [(0, .ref (b0 + 1)), (1, .ref (pa l1)), (2, .int l2), (3, .int l3)] [] w Post := by
  unfold cF_takeParts_168 at hk
  refine zi_l rfl rfl rfl ?_
  refine zi_l rfl rfl rfl ?_
  by_cases q1 : l1 < σ.2.1
  case neg => rw [if_neg q1] at hk; cases hk
  rw [if_pos q1] at hk
  cases c2 : cF_takePlace l1 l2 σ with
  | none => rw [c2] at hk; cases hk
  | some q1 =>
    obtain ⟨v3, m4⟩ := q1
    rw [c2] at hk
    dsimp only at hk
    refine zi_v rfl rfl rfl (h.shP q1) rfl rfl rfl (zOk.deep (cT_takePlace (q := 0) (by omega) c2 h (fun w h => ?_)) (by omega))
    refine zi_ifd rfl rfl rfl (tgt := 192) (by decide) (fun c5 => ?_) (fun c5 => ?_)
    · rw [if_pos c5] at hk
      refine zi_a (st' := .int 0 :: _) rfl rfl rfl ?_
      cases hk
      exact zi_rz rfl rfl (Or.inl rfl) (k w h)
    · rw [if_neg c5] at hk
      refine zi_l rfl rfl rfl ?_
      refine zi_l rfl rfl rfl ?_
      refine zi_l rfl rfl rfl ?_
      cases c6 : cF_partAt l3 m4 with
      | none => rw [c6] at hk; cases hk
      | some q1 =>
        obtain ⟨v7, m8⟩ := q1
        rw [c6] at hk
        dsimp only at hk
        refine zi_v rfl rfl rfl (h.sh (o := 1) (c := 2) (n := 2) (by decide)) rfl rfl rfl (zOk.deep (cT_partAt (q := 0) (by omega) c6 h (fun w h => ?_)) (by omega))
        by_cases q9 : l1 < m8.2.1
        case neg => rw [if_neg q9] at hk; cases hk
        rw [if_pos q9] at hk
        cases c10 : cF_takeExpression l1 v7 m8 with
        | none => rw [c10] at hk; cases hk
        | some q1 =>
          obtain ⟨v11, m12⟩ := q1
          rw [c10] at hk
          dsimp only at hk
          refine zi_v rfl rfl rfl (h.shP q9) rfl rfl (by generalize v7 = o0; cases o0 <;> rfl) (zOk.deep (cT_takeExpression (q := 1) (by omega) c10 h (fun w h => ?_)) (by omega))
          refine zi_ifd rfl rfl rfl (tgt := 192) (by decide) (fun c13 => ?_) (fun c13 => ?_)
          · rw [if_pos c13] at hk
            refine zi_a (st' := .int 0 :: _) rfl rfl rfl ?_
            cases hk
            exact zi_rz rfl rfl (Or.inl rfl) (k w h)
          · rw [if_neg c13] at hk
            refine zi_a (st' := .int 1 :: _) rfl rfl rfl ?_
            refine zi_go rfl rfl rfl (tgt := 193) (by decide) ?_
            cases hk
            exact zi_rz rfl rfl (Or.inr rfl) (k w h)
def cF_takeParts_194 (l1 : Nat) (l2 : Int32) (σ : cS) : Option (Int32 × cS) :=
  match cF_partAt l2 σ with | none => none | some (v2, m3) => if l1 < m3.2.1 then match cF_takeExpression l1 v2 m3 with | none => none | some (v6, m7) => if v6 = 0 ∨ v6 = 1 then some (v6, m7) else none else none
theorem cT_takeParts_194 {S : zS} {q : Nat} {w w0 : zW} {Post : Option Value → zW → Prop} {b0 : Nat} {pa sa : Nat → Nat} {σ σ2 : cS} {v : Int32} {l1 : Nat} {l2 : Int32} (hq : 3 ≤ q) (hk : cF_takeParts_194 l1 l2 σ = some (v, σ2)) (h : cW b0 w0 pa sa σ w) (k : ∀ w2, cW b0 w0 pa sa σ2 w2 → Post (some (.int v)) w2) : zOk S (q + 1) 12 194 [(0, .ref (b0 + 1)), (1, .ref (pa l1)), (2, .int l2)] [] w Post := by
  unfold cF_takeParts_194 at hk
  refine zi_l rfl rfl rfl ?_
  refine zi_l rfl rfl rfl ?_
  refine zi_l rfl rfl rfl ?_
  cases c1 : cF_partAt l2 σ with
  | none => rw [c1] at hk; cases hk
  | some q1 =>
    obtain ⟨v2, m3⟩ := q1
    rw [c1] at hk
    dsimp only at hk
    refine zi_v rfl rfl rfl (h.sh (o := 1) (c := 2) (n := 2) (by decide)) rfl rfl rfl (zOk.deep (cT_partAt (q := 0) (by omega) c1 h (fun w h => ?_)) (by omega))
    by_cases q4 : l1 < m3.2.1
    case neg => rw [if_neg q4] at hk; cases hk
    rw [if_pos q4] at hk
    cases c5 : cF_takeExpression l1 v2 m3 with
    | none => rw [c5] at hk; cases hk
    | some q1 =>
      obtain ⟨v6, m7⟩ := q1
      rw [c5] at hk
      dsimp only at hk
      refine zi_v rfl rfl rfl (h.shP q4) rfl rfl (by generalize v2 = o0; cases o0 <;> rfl) (zOk.deep (cT_takeExpression (q := 1) (by omega) c5 h (fun w h => ?_)) (by omega))
      by_cases q8 : v6 = 0 ∨ v6 = 1
      case neg => rw [if_neg q8] at hk; cases hk
      rw [if_pos q8] at hk
      cases hk
      exact zi_rz rfl rfl q8 (k w h)
def cF_takeParts_247 (σ : cS) : Option (Int32 × cS) :=
  some ((1 : Int32), σ)
theorem cT_takeParts_247 {S : zS} {q : Nat} {w w0 : zW} {Post : Option Value → zW → Prop} {b0 : Nat} {pa sa : Nat → Nat} {σ σ2 : cS} {v : Int32} (hq : 3 ≤ q) (hk : cF_takeParts_247  σ = some (v, σ2)) (h : cW b0 w0 pa sa σ w) (k : ∀ w2, cW b0 w0 pa sa σ2 w2 → Post (some (.int v)) w2) : zOk S (q + 1) 12 247 [] [] w Post := by
  unfold cF_takeParts_247 at hk
  refine zi_a (st' := .int 1 :: _) rfl rfl rfl ?_
  refine zi_go rfl rfl rfl (tgt := 252) (by decide) ?_
  cases hk
  exact zi_rz rfl rfl (Or.inr rfl) (k w h)
def cF_takeParts (a1 : Option Nat) (a2 : Int32) (a3 : Int32) (a4 : Int32) (σ : cS) : Option (Int32 × cS) :=
  match a1 with | none => (none) | some i1 => (if i1 < σ.2.1 then if ((σ.1.1 1 0 i1)).toInt < 0 ∨ 21 < ((σ.1.1 1 0 i1)).toInt then (some ((0 : Int32), σ)) else if (σ.1.1 1 0 i1) = 0 then (cF_takeParts_108  i1 a2 a3 σ) else if (σ.1.1 1 0 i1) = 1 then (cF_takeParts_108  i1 a2 a3 σ) else if (σ.1.1 1 0 i1) = 2 then (cF_takeParts_108  i1 a2 a3 σ) else if (σ.1.1 1 0 i1) = 3 then (cF_takeParts_108  i1 a2 a3 σ) else if (σ.1.1 1 0 i1) = 4 then (cF_takeParts_108  i1 a2 a3 σ) else if (σ.1.1 1 0 i1) = 5 then (cF_takeParts_108  i1 a2 a3 σ) else if (σ.1.1 1 0 i1) = 6 then (some ((0 : Int32), σ)) else if (σ.1.1 1 0 i1) = 7 then (some ((0 : Int32), σ)) else if (σ.1.1 1 0 i1) = 8 then (some ((0 : Int32), σ)) else if (σ.1.1 1 0 i1) = 9 then (some ((0 : Int32), σ)) else if (σ.1.1 1 0 i1) = 10 then (cF_takeParts_138  i1 a2 a3 σ) else if (σ.1.1 1 0 i1) = 11 then (cF_takeParts_168  i1 a2 a3 σ) else if (σ.1.1 1 0 i1) = 12 then (cF_takeParts_168  i1 a2 a3 σ) else if (σ.1.1 1 0 i1) = 13 then (cF_takeParts_194  i1 a2 σ) else if (σ.1.1 1 0 i1) = 14 then (cF_takeParts_194  i1 a2 σ) else if (σ.1.1 1 0 i1) = 15 then (cF_takeParts_138  i1 a2 a3 σ) else if (σ.1.1 1 0 i1) = 16 then (match cF_partAt a2 σ with | none => none | some (v21, m22) => if i1 < m22.2.1 then match cF_takeExpression i1 v21 m22 with | none => none | some (v25, m26) => if v25 = 0 then (some ((0 : Int32), m26)) else (match cF_partAt a3 m26 with | none => none | some (v29, m30) => if i1 < m30.2.1 then match cF_takeStatement i1 v29 m30 with | none => none | some (v33, m34) => if v33 = 0 then (some ((0 : Int32), m34)) else (if a4 = (-1 : Int32) then (cF_takeParts_247   m34) else (match cF_partAt a4 m34 with | none => none | some (v38, m39) => if i1 < m39.2.1 then match cF_takeStatement i1 v38 m39 with | none => none | some (v42, m43) => if v42 = 0 then (some ((0 : Int32), m43)) else (cF_takeParts_247   m43) else none)) else none) else none) else if (σ.1.1 1 0 i1) = 17 then (match cF_partAt a2 σ with | none => none | some (v47, m48) => if i1 < m48.2.1 then match cF_takeExpression i1 v47 m48 with | none => none | some (v51, m52) => if v51 = 0 then (some ((0 : Int32), m52)) else (match cF_partAt a3 m52 with | none => none | some (v55, m56) => if i1 < m56.2.1 then match cF_takeStatement i1 v55 m56 with | none => none | some (v59, m60) => if v59 = 0 then (some ((0 : Int32), m60)) else (some ((1 : Int32), m60)) else none) else none) else if (σ.1.1 1 0 i1) = 18 then (match cF_partAt a2 σ with | none => none | some (v64, m65) => if i1 < m65.2.1 then match cF_takeExpression i1 v64 m65 with | none => none | some (v68, m69) => if v68 = 0 then (some ((0 : Int32), m69)) else (match cF_partAt a3 m69 with | none => none | some (v72, m73) => if i1 < m73.2.1 then match cF_takeStatement i1 v72 m73 with | none => none | some (v76, m77) => if v76 = 0 then (some ((0 : Int32), m77)) else (match cF_partAt a4 m77 with | none => none | some (v80, m81) => if i1 < m81.2.1 then match cF_takeStatement i1 v80 m81 with | none => none | some (v84, m85) => if v84 = 0 then (some ((0 : Int32), m85)) else (some ((1 : Int32), m85)) else none) else none) else none) else if (σ.1.1 1 0 i1) = 19 then (if i1 < σ.2.1 then match cF_takePlace i1 a2 σ with | none => none | some (v90, m91) => if v90 = 0 then (some ((0 : Int32), m91)) else (match cF_partAt a3 m91 with | none => none | some (v94, m95) => if i1 < m95.2.1 then match cF_takeExpression i1 v94 m95 with | none => none | some (v98, m99) => if v98 = 0 then (some ((0 : Int32), m99)) else (match cF_partAt a4 m99 with | none => none | some (v102, m103) => if i1 < m103.2.1 then match cF_takeExpression i1 v102 m103 with | none => none | some (v106, m107) => if v106 = 0 then (some ((0 : Int32), m107)) else (some ((1 : Int32), m107)) else none) else none) else none) else if (σ.1.1 1 0 i1) = 20 then (if i1 < σ.2.1 then match cF_takePlace i1 a2 σ with | none => none | some (v112, m113) => if v112 = 0 ∨ v112 = 1 then some (v112, m113) else none else none) else if (σ.1.1 1 0 i1) = 21 then (match cF_partAt a2 σ with | none => none | some (v117, m118) => if i1 < m118.2.1 then match cF_takeStatement i1 v117 m118 with | none => none | some (v121, m122) => if v121 = 0 then (some ((0 : Int32), m122)) else (match cF_partAt a3 m122 with | none => none | some (v125, m126) => if i1 < m126.2.1 then match cF_takeClosing i1 v125 m126 with | none => none | some (v129, m130) => if v129 = 0 then (some ((0 : Int32), m130)) else (some ((1 : Int32), m130)) else none) else none) else none else none)
theorem cT_takeParts {S : zS} {q : Nat} {w w0 : zW} {Post : Option Value → zW → Prop} {b0 : Nat} {pa sa : Nat → Nat} {σ σ2 : cS} {v : Int32} {a1 : Option Nat} {a2 : Int32} {a3 : Int32} {a4 : Int32} (hq : 3 ≤ q) (hk : cF_takeParts a1 a2 a3 a4 σ = some (v, σ2)) (h : cW b0 w0 pa sa σ w) (k : ∀ w2, cW b0 w0 pa sa σ2 w2 → Post (some (.int v)) w2) : zOk S (q + 1) 12 0 (lv_args 0 [.ref (b0 + 1), cr pa a1, .int a2, .int a3, .int a4]) [] w Post := by
  unfold cF_takeParts at hk
  cases a1 with
  | none =>
    dsimp only at hk
    refine zi_l rfl rfl rfl ?_
    cases hk
  | some i1 =>
    dsimp only at hk
    refine zi_l rfl rfl rfl ?_
    by_cases q1 : i1 < σ.2.1
    case neg => rw [if_neg q1] at hk; cases hk
    rw [if_pos q1] at hk
    refine zc_gP (v := .int (σ.1.1 1 0 i1)) h rfl rfl rfl q1 rfl ?_
    by_cases c2 : ((σ.1.1 1 0 i1)).toInt < 0 ∨ 21 < ((σ.1.1 1 0 i1)).toInt
    · rw [if_pos c2] at hk
      refine zi_sd rfl c2 (tgt := 401) (by decide) ?_
      refine zi_a (st' := .int 0 :: _) rfl rfl rfl ?_
      cases hk
      exact zi_rz rfl rfl (Or.inl rfl) (k w h)
    rw [if_neg c2] at hk
    by_cases e3 : (σ.1.1 1 0 i1) = 0
    · rw [if_pos e3] at hk
      refine zi_si rfl c2 (off := 104) (by rw [e3]; rfl) (tgt := 108) (by decide) ?_
      refine zk_sub [0, 1, 2, 3] rfl rfl ?_
      exact cT_takeParts_108 hq hk h k
    rw [if_neg e3] at hk
    by_cases e4 : (σ.1.1 1 0 i1) = 1
    · rw [if_pos e4] at hk
      refine zi_si rfl c2 (off := 104) (by rw [e4]; rfl) (tgt := 108) (by decide) ?_
      refine zk_sub [0, 1, 2, 3] rfl rfl ?_
      exact cT_takeParts_108 hq hk h k
    rw [if_neg e4] at hk
    by_cases e5 : (σ.1.1 1 0 i1) = 2
    · rw [if_pos e5] at hk
      refine zi_si rfl c2 (off := 104) (by rw [e5]; rfl) (tgt := 108) (by decide) ?_
      refine zk_sub [0, 1, 2, 3] rfl rfl ?_
      exact cT_takeParts_108 hq hk h k
    rw [if_neg e5] at hk
    by_cases e6 : (σ.1.1 1 0 i1) = 3
    · rw [if_pos e6] at hk
      refine zi_si rfl c2 (off := 104) (by rw [e6]; rfl) (tgt := 108) (by decide) ?_
      refine zk_sub [0, 1, 2, 3] rfl rfl ?_
      exact cT_takeParts_108 hq hk h k
    rw [if_neg e6] at hk
    by_cases e7 : (σ.1.1 1 0 i1) = 4
    · rw [if_pos e7] at hk
      refine zi_si rfl c2 (off := 104) (by rw [e7]; rfl) (tgt := 108) (by decide) ?_
      refine zk_sub [0, 1, 2, 3] rfl rfl ?_
      exact cT_takeParts_108 hq hk h k
    rw [if_neg e7] at hk
    by_cases e8 : (σ.1.1 1 0 i1) = 5
    · rw [if_pos e8] at hk
      refine zi_si rfl c2 (off := 104) (by rw [e8]; rfl) (tgt := 108) (by decide) ?_
      refine zk_sub [0, 1, 2, 3] rfl rfl ?_
      exact cT_takeParts_108 hq hk h k
    rw [if_neg e8] at hk
    by_cases e9 : (σ.1.1 1 0 i1) = 6
    · rw [if_pos e9] at hk
      refine zi_si rfl c2 (off := 397) (by rw [e9]; rfl) (tgt := 401) (by decide) ?_
      refine zi_a (st' := .int 0 :: _) rfl rfl rfl ?_
      cases hk
      exact zi_rz rfl rfl (Or.inl rfl) (k w h)
    rw [if_neg e9] at hk
    by_cases e10 : (σ.1.1 1 0 i1) = 7
    · rw [if_pos e10] at hk
      refine zi_si rfl c2 (off := 397) (by rw [e10]; rfl) (tgt := 401) (by decide) ?_
      refine zi_a (st' := .int 0 :: _) rfl rfl rfl ?_
      cases hk
      exact zi_rz rfl rfl (Or.inl rfl) (k w h)
    rw [if_neg e10] at hk
    by_cases e11 : (σ.1.1 1 0 i1) = 8
    · rw [if_pos e11] at hk
      refine zi_si rfl c2 (off := 397) (by rw [e11]; rfl) (tgt := 401) (by decide) ?_
      refine zi_a (st' := .int 0 :: _) rfl rfl rfl ?_
      cases hk
      exact zi_rz rfl rfl (Or.inl rfl) (k w h)
    rw [if_neg e11] at hk
    by_cases e12 : (σ.1.1 1 0 i1) = 9
    · rw [if_pos e12] at hk
      refine zi_si rfl c2 (off := 397) (by rw [e12]; rfl) (tgt := 401) (by decide) ?_
      refine zi_a (st' := .int 0 :: _) rfl rfl rfl ?_
      cases hk
      exact zi_rz rfl rfl (Or.inl rfl) (k w h)
    rw [if_neg e12] at hk
    by_cases e13 : (σ.1.1 1 0 i1) = 10
    · rw [if_pos e13] at hk
      refine zi_si rfl c2 (off := 134) (by rw [e13]; rfl) (tgt := 138) (by decide) ?_
      refine zk_sub [0, 1, 2, 3] rfl rfl ?_
      exact cT_takeParts_138 hq hk h k
    rw [if_neg e13] at hk
    by_cases e14 : (σ.1.1 1 0 i1) = 11
    · rw [if_pos e14] at hk
      refine zi_si rfl c2 (off := 164) (by rw [e14]; rfl) (tgt := 168) (by decide) ?_
      refine zk_sub [0, 1, 2, 3] rfl rfl ?_
      exact cT_takeParts_168 hq hk h k
    rw [if_neg e14] at hk
    by_cases e15 : (σ.1.1 1 0 i1) = 12
    · rw [if_pos e15] at hk
      refine zi_si rfl c2 (off := 164) (by rw [e15]; rfl) (tgt := 168) (by decide) ?_
      refine zk_sub [0, 1, 2, 3] rfl rfl ?_
      exact cT_takeParts_168 hq hk h k
    rw [if_neg e15] at hk
    by_cases e16 : (σ.1.1 1 0 i1) = 13
    · rw [if_pos e16] at hk
      refine zi_si rfl c2 (off := 190) (by rw [e16]; rfl) (tgt := 194) (by decide) ?_
      refine zk_sub [0, 1, 2] rfl rfl ?_
      exact cT_takeParts_194 hq hk h k
    rw [if_neg e16] at hk
    by_cases e17 : (σ.1.1 1 0 i1) = 14
    · rw [if_pos e17] at hk
      refine zi_si rfl c2 (off := 190) (by rw [e17]; rfl) (tgt := 194) (by decide) ?_
      refine zk_sub [0, 1, 2] rfl rfl ?_
      exact cT_takeParts_194 hq hk h k
    rw [if_neg e17] at hk
    by_cases e18 : (σ.1.1 1 0 i1) = 15
    · rw [if_pos e18] at hk
      refine zi_si rfl c2 (off := 134) (by rw [e18]; rfl) (tgt := 138) (by decide) ?_
      refine zk_sub [0, 1, 2, 3] rfl rfl ?_
      exact cT_takeParts_138 hq hk h k
    rw [if_neg e18] at hk
    by_cases e19 : (σ.1.1 1 0 i1) = 16
    · rw [if_pos e19] at hk
      refine zi_si rfl c2 (off := 200) (by rw [e19]; rfl) (tgt := 204) (by decide) ?_
      refine zi_l rfl rfl rfl ?_
      refine zi_l rfl rfl rfl ?_
      refine zi_l rfl rfl rfl ?_
      cases c20 : cF_partAt a2 σ with
      | none => rw [c20] at hk; cases hk
      | some q1 =>
        obtain ⟨v21, m22⟩ := q1
        rw [c20] at hk
        dsimp only at hk
        refine zi_v rfl rfl rfl (h.sh (o := 1) (c := 2) (n := 2) (by decide)) rfl rfl rfl (zOk.deep (cT_partAt (q := 0) (by omega) c20 h (fun w h => ?_)) (by omega))
        by_cases q23 : i1 < m22.2.1
        case neg => rw [if_neg q23] at hk; cases hk
        rw [if_pos q23] at hk
        cases c24 : cF_takeExpression i1 v21 m22 with
        | none => rw [c24] at hk; cases hk
        | some q1 =>
          obtain ⟨v25, m26⟩ := q1
          rw [c24] at hk
          dsimp only at hk
          refine zi_v rfl rfl rfl (h.shP q23) rfl rfl (by generalize v21 = o0; cases o0 <;> rfl) (zOk.deep (cT_takeExpression (q := 1) (by omega) c24 h (fun w h => ?_)) (by omega))
          refine zi_ifd rfl rfl rfl (tgt := 251) (by decide) (fun c27 => ?_) (fun c27 => ?_)
          · rw [if_pos c27] at hk
            refine zi_a (st' := .int 0 :: _) rfl rfl rfl ?_
            cases hk
            exact zi_rz rfl rfl (Or.inl rfl) (k w h)
          · rw [if_neg c27] at hk
            refine zi_l rfl rfl rfl ?_
            refine zi_l rfl rfl rfl ?_
            refine zi_l rfl rfl rfl ?_
            cases c28 : cF_partAt a3 m26 with
            | none => rw [c28] at hk; cases hk
            | some q1 =>
              obtain ⟨v29, m30⟩ := q1
              rw [c28] at hk
              dsimp only at hk
              refine zi_v rfl rfl rfl (h.sh (o := 1) (c := 2) (n := 2) (by decide)) rfl rfl rfl (zOk.deep (cT_partAt (q := 0) (by omega) c28 h (fun w h => ?_)) (by omega))
              by_cases q31 : i1 < m30.2.1
              case neg => rw [if_neg q31] at hk; cases hk
              rw [if_pos q31] at hk
              cases c32 : cF_takeStatement i1 v29 m30 with
              | none => rw [c32] at hk; cases hk
              | some q1 =>
                obtain ⟨v33, m34⟩ := q1
                rw [c32] at hk
                dsimp only at hk
                refine zi_v rfl rfl rfl (h.shP q31) rfl rfl (by generalize v29 = o0; cases o0 <;> rfl) (zOk.deep (cT_takeStatement (q := 1) (by omega) c32 h (fun w h => ?_)) (by omega))
                refine zi_ifd rfl rfl rfl (tgt := 251) (by decide) (fun c35 => ?_) (fun c35 => ?_)
                · rw [if_pos c35] at hk
                  refine zi_a (st' := .int 0 :: _) rfl rfl rfl ?_
                  cases hk
                  exact zi_rz rfl rfl (Or.inl rfl) (k w h)
                · rw [if_neg c35] at hk
                  refine zi_l rfl rfl rfl ?_
                  refine zi_a (st' := .int (-1) :: _) rfl rfl rfl ?_
                  refine zi_ifd rfl rfl rfl (tgt := 247) (by decide) (fun c36 => ?_) (fun c36 => ?_)
                  · rw [if_pos c36] at hk
                    refine zk_sub [] rfl rfl ?_
                    exact cT_takeParts_247 hq hk h k
                  · rw [if_neg c36] at hk
                    refine zi_l rfl rfl rfl ?_
                    refine zi_l rfl rfl rfl ?_
                    refine zi_l rfl rfl rfl ?_
                    cases c37 : cF_partAt a4 m34 with
                    | none => rw [c37] at hk; cases hk
                    | some q1 =>
                      obtain ⟨v38, m39⟩ := q1
                      rw [c37] at hk
                      dsimp only at hk
                      refine zi_v rfl rfl rfl (h.sh (o := 1) (c := 2) (n := 2) (by decide)) rfl rfl rfl (zOk.deep (cT_partAt (q := 0) (by omega) c37 h (fun w h => ?_)) (by omega))
                      by_cases q40 : i1 < m39.2.1
                      case neg => rw [if_neg q40] at hk; cases hk
                      rw [if_pos q40] at hk
                      cases c41 : cF_takeStatement i1 v38 m39 with
                      | none => rw [c41] at hk; cases hk
                      | some q1 =>
                        obtain ⟨v42, m43⟩ := q1
                        rw [c41] at hk
                        dsimp only at hk
                        refine zi_v rfl rfl rfl (h.shP q40) rfl rfl (by generalize v38 = o0; cases o0 <;> rfl) (zOk.deep (cT_takeStatement (q := 1) (by omega) c41 h (fun w h => ?_)) (by omega))
                        refine zi_ifd rfl rfl rfl (tgt := 251) (by decide) (fun c44 => ?_) (fun c44 => ?_)
                        · rw [if_pos c44] at hk
                          refine zi_a (st' := .int 0 :: _) rfl rfl rfl ?_
                          cases hk
                          exact zi_rz rfl rfl (Or.inl rfl) (k w h)
                        · rw [if_neg c44] at hk
                          refine zk_sub [] rfl rfl ?_
                          exact cT_takeParts_247 hq hk h k
    rw [if_neg e19] at hk
    by_cases e45 : (σ.1.1 1 0 i1) = 17
    · rw [if_pos e45] at hk
      refine zi_si rfl c2 (off := 249) (by rw [e45]; rfl) (tgt := 253) (by decide) ?_
      refine zi_l rfl rfl rfl ?_
      refine zi_l rfl rfl rfl ?_
      refine zi_l rfl rfl rfl ?_
      cases c46 : cF_partAt a2 σ with
      | none => rw [c46] at hk; cases hk
      | some q1 =>
        obtain ⟨v47, m48⟩ := q1
        rw [c46] at hk
        dsimp only at hk
        refine zi_v rfl rfl rfl (h.sh (o := 1) (c := 2) (n := 2) (by decide)) rfl rfl rfl (zOk.deep (cT_partAt (q := 0) (by omega) c46 h (fun w h => ?_)) (by omega))
        by_cases q49 : i1 < m48.2.1
        case neg => rw [if_neg q49] at hk; cases hk
        rw [if_pos q49] at hk
        cases c50 : cF_takeExpression i1 v47 m48 with
        | none => rw [c50] at hk; cases hk
        | some q1 =>
          obtain ⟨v51, m52⟩ := q1
          rw [c50] at hk
          dsimp only at hk
          refine zi_v rfl rfl rfl (h.shP q49) rfl rfl (by generalize v47 = o0; cases o0 <;> rfl) (zOk.deep (cT_takeExpression (q := 1) (by omega) c50 h (fun w h => ?_)) (by omega))
          refine zi_ifd rfl rfl rfl (tgt := 281) (by decide) (fun c53 => ?_) (fun c53 => ?_)
          · rw [if_pos c53] at hk
            refine zi_a (st' := .int 0 :: _) rfl rfl rfl ?_
            cases hk
            exact zi_rz rfl rfl (Or.inl rfl) (k w h)
          · rw [if_neg c53] at hk
            refine zi_l rfl rfl rfl ?_
            refine zi_l rfl rfl rfl ?_
            refine zi_l rfl rfl rfl ?_
            cases c54 : cF_partAt a3 m52 with
            | none => rw [c54] at hk; cases hk
            | some q1 =>
              obtain ⟨v55, m56⟩ := q1
              rw [c54] at hk
              dsimp only at hk
              refine zi_v rfl rfl rfl (h.sh (o := 1) (c := 2) (n := 2) (by decide)) rfl rfl rfl (zOk.deep (cT_partAt (q := 0) (by omega) c54 h (fun w h => ?_)) (by omega))
              by_cases q57 : i1 < m56.2.1
              case neg => rw [if_neg q57] at hk; cases hk
              rw [if_pos q57] at hk
              cases c58 : cF_takeStatement i1 v55 m56 with
              | none => rw [c58] at hk; cases hk
              | some q1 =>
                obtain ⟨v59, m60⟩ := q1
                rw [c58] at hk
                dsimp only at hk
                refine zi_v rfl rfl rfl (h.shP q57) rfl rfl (by generalize v55 = o0; cases o0 <;> rfl) (zOk.deep (cT_takeStatement (q := 1) (by omega) c58 h (fun w h => ?_)) (by omega))
                refine zi_ifd rfl rfl rfl (tgt := 281) (by decide) (fun c61 => ?_) (fun c61 => ?_)
                · rw [if_pos c61] at hk
                  refine zi_a (st' := .int 0 :: _) rfl rfl rfl ?_
                  cases hk
                  exact zi_rz rfl rfl (Or.inl rfl) (k w h)
                · rw [if_neg c61] at hk
                  refine zi_a (st' := .int 1 :: _) rfl rfl rfl ?_
                  refine zi_go rfl rfl rfl (tgt := 282) (by decide) ?_
                  cases hk
                  exact zi_rz rfl rfl (Or.inr rfl) (k w h)
    rw [if_neg e45] at hk
    by_cases e62 : (σ.1.1 1 0 i1) = 18
    · rw [if_pos e62] at hk
      refine zi_si rfl c2 (off := 279) (by rw [e62]; rfl) (tgt := 283) (by decide) ?_
      refine zi_l rfl rfl rfl ?_
      refine zi_l rfl rfl rfl ?_
      refine zi_l rfl rfl rfl ?_
      cases c63 : cF_partAt a2 σ with
      | none => rw [c63] at hk; cases hk
      | some q1 =>
        obtain ⟨v64, m65⟩ := q1
        rw [c63] at hk
        dsimp only at hk
        refine zi_v rfl rfl rfl (h.sh (o := 1) (c := 2) (n := 2) (by decide)) rfl rfl rfl (zOk.deep (cT_partAt (q := 0) (by omega) c63 h (fun w h => ?_)) (by omega))
        by_cases q66 : i1 < m65.2.1
        case neg => rw [if_neg q66] at hk; cases hk
        rw [if_pos q66] at hk
        cases c67 : cF_takeExpression i1 v64 m65 with
        | none => rw [c67] at hk; cases hk
        | some q1 =>
          obtain ⟨v68, m69⟩ := q1
          rw [c67] at hk
          dsimp only at hk
          refine zi_v rfl rfl rfl (h.shP q66) rfl rfl (by generalize v64 = o0; cases o0 <;> rfl) (zOk.deep (cT_takeExpression (q := 1) (by omega) c67 h (fun w h => ?_)) (by omega))
          refine zi_ifd rfl rfl rfl (tgt := 324) (by decide) (fun c70 => ?_) (fun c70 => ?_)
          · rw [if_pos c70] at hk
            refine zi_a (st' := .int 0 :: _) rfl rfl rfl ?_
            cases hk
            exact zi_rz rfl rfl (Or.inl rfl) (k w h)
          · rw [if_neg c70] at hk
            refine zi_l rfl rfl rfl ?_
            refine zi_l rfl rfl rfl ?_
            refine zi_l rfl rfl rfl ?_
            cases c71 : cF_partAt a3 m69 with
            | none => rw [c71] at hk; cases hk
            | some q1 =>
              obtain ⟨v72, m73⟩ := q1
              rw [c71] at hk
              dsimp only at hk
              refine zi_v rfl rfl rfl (h.sh (o := 1) (c := 2) (n := 2) (by decide)) rfl rfl rfl (zOk.deep (cT_partAt (q := 0) (by omega) c71 h (fun w h => ?_)) (by omega))
              by_cases q74 : i1 < m73.2.1
              case neg => rw [if_neg q74] at hk; cases hk
              rw [if_pos q74] at hk
              cases c75 : cF_takeStatement i1 v72 m73 with
              | none => rw [c75] at hk; cases hk
              | some q1 =>
                obtain ⟨v76, m77⟩ := q1
                rw [c75] at hk
                dsimp only at hk
                refine zi_v rfl rfl rfl (h.shP q74) rfl rfl (by generalize v72 = o0; cases o0 <;> rfl) (zOk.deep (cT_takeStatement (q := 1) (by omega) c75 h (fun w h => ?_)) (by omega))
                refine zi_ifd rfl rfl rfl (tgt := 324) (by decide) (fun c78 => ?_) (fun c78 => ?_)
                · rw [if_pos c78] at hk
                  refine zi_a (st' := .int 0 :: _) rfl rfl rfl ?_
                  cases hk
                  exact zi_rz rfl rfl (Or.inl rfl) (k w h)
                · rw [if_neg c78] at hk
                  refine zi_l rfl rfl rfl ?_
                  refine zi_l rfl rfl rfl ?_
                  refine zi_l rfl rfl rfl ?_
                  cases c79 : cF_partAt a4 m77 with
                  | none => rw [c79] at hk; cases hk
                  | some q1 =>
                    obtain ⟨v80, m81⟩ := q1
                    rw [c79] at hk
                    dsimp only at hk
                    refine zi_v rfl rfl rfl (h.sh (o := 1) (c := 2) (n := 2) (by decide)) rfl rfl rfl (zOk.deep (cT_partAt (q := 0) (by omega) c79 h (fun w h => ?_)) (by omega))
                    by_cases q82 : i1 < m81.2.1
                    case neg => rw [if_neg q82] at hk; cases hk
                    rw [if_pos q82] at hk
                    cases c83 : cF_takeStatement i1 v80 m81 with
                    | none => rw [c83] at hk; cases hk
                    | some q1 =>
                      obtain ⟨v84, m85⟩ := q1
                      rw [c83] at hk
                      dsimp only at hk
                      refine zi_v rfl rfl rfl (h.shP q82) rfl rfl (by generalize v80 = o0; cases o0 <;> rfl) (zOk.deep (cT_takeStatement (q := 1) (by omega) c83 h (fun w h => ?_)) (by omega))
                      refine zi_ifd rfl rfl rfl (tgt := 324) (by decide) (fun c86 => ?_) (fun c86 => ?_)
                      · rw [if_pos c86] at hk
                        refine zi_a (st' := .int 0 :: _) rfl rfl rfl ?_
                        cases hk
                        exact zi_rz rfl rfl (Or.inl rfl) (k w h)
                      · rw [if_neg c86] at hk
                        refine zi_a (st' := .int 1 :: _) rfl rfl rfl ?_
                        refine zi_go rfl rfl rfl (tgt := 325) (by decide) ?_
                        cases hk
                        exact zi_rz rfl rfl (Or.inr rfl) (k w h)
    rw [if_neg e62] at hk
    by_cases e87 : (σ.1.1 1 0 i1) = 19
    · rw [if_pos e87] at hk
      refine zi_si rfl c2 (off := 322) (by rw [e87]; rfl) (tgt := 326) (by decide) ?_
      refine zi_l rfl rfl rfl ?_
      refine zi_l rfl rfl rfl ?_
      by_cases q88 : i1 < σ.2.1
      case neg => rw [if_neg q88] at hk; cases hk
      rw [if_pos q88] at hk
      cases c89 : cF_takePlace i1 a2 σ with
      | none => rw [c89] at hk; cases hk
      | some q1 =>
        obtain ⟨v90, m91⟩ := q1
        rw [c89] at hk
        dsimp only at hk
        refine zi_v rfl rfl rfl (h.shP q88) rfl rfl rfl (zOk.deep (cT_takePlace (q := 0) (by omega) c89 h (fun w h => ?_)) (by omega))
        refine zi_ifd rfl rfl rfl (tgt := 363) (by decide) (fun c92 => ?_) (fun c92 => ?_)
        · rw [if_pos c92] at hk
          refine zi_a (st' := .int 0 :: _) rfl rfl rfl ?_
          cases hk
          exact zi_rz rfl rfl (Or.inl rfl) (k w h)
        · rw [if_neg c92] at hk
          refine zi_l rfl rfl rfl ?_
          refine zi_l rfl rfl rfl ?_
          refine zi_l rfl rfl rfl ?_
          cases c93 : cF_partAt a3 m91 with
          | none => rw [c93] at hk; cases hk
          | some q1 =>
            obtain ⟨v94, m95⟩ := q1
            rw [c93] at hk
            dsimp only at hk
            refine zi_v rfl rfl rfl (h.sh (o := 1) (c := 2) (n := 2) (by decide)) rfl rfl rfl (zOk.deep (cT_partAt (q := 0) (by omega) c93 h (fun w h => ?_)) (by omega))
            by_cases q96 : i1 < m95.2.1
            case neg => rw [if_neg q96] at hk; cases hk
            rw [if_pos q96] at hk
            cases c97 : cF_takeExpression i1 v94 m95 with
            | none => rw [c97] at hk; cases hk
            | some q1 =>
              obtain ⟨v98, m99⟩ := q1
              rw [c97] at hk
              dsimp only at hk
              refine zi_v rfl rfl rfl (h.shP q96) rfl rfl (by generalize v94 = o0; cases o0 <;> rfl) (zOk.deep (cT_takeExpression (q := 1) (by omega) c97 h (fun w h => ?_)) (by omega))
              refine zi_ifd rfl rfl rfl (tgt := 363) (by decide) (fun c100 => ?_) (fun c100 => ?_)
              · rw [if_pos c100] at hk
                refine zi_a (st' := .int 0 :: _) rfl rfl rfl ?_
                cases hk
                exact zi_rz rfl rfl (Or.inl rfl) (k w h)
              · rw [if_neg c100] at hk
                refine zi_l rfl rfl rfl ?_
                refine zi_l rfl rfl rfl ?_
                refine zi_l rfl rfl rfl ?_
                cases c101 : cF_partAt a4 m99 with
                | none => rw [c101] at hk; cases hk
                | some q1 =>
                  obtain ⟨v102, m103⟩ := q1
                  rw [c101] at hk
                  dsimp only at hk
                  refine zi_v rfl rfl rfl (h.sh (o := 1) (c := 2) (n := 2) (by decide)) rfl rfl rfl (zOk.deep (cT_partAt (q := 0) (by omega) c101 h (fun w h => ?_)) (by omega))
                  by_cases q104 : i1 < m103.2.1
                  case neg => rw [if_neg q104] at hk; cases hk
                  rw [if_pos q104] at hk
                  cases c105 : cF_takeExpression i1 v102 m103 with
                  | none => rw [c105] at hk; cases hk
                  | some q1 =>
                    obtain ⟨v106, m107⟩ := q1
                    rw [c105] at hk
                    dsimp only at hk
                    refine zi_v rfl rfl rfl (h.shP q104) rfl rfl (by generalize v102 = o0; cases o0 <;> rfl) (zOk.deep (cT_takeExpression (q := 1) (by omega) c105 h (fun w h => ?_)) (by omega))
                    refine zi_ifd rfl rfl rfl (tgt := 363) (by decide) (fun c108 => ?_) (fun c108 => ?_)
                    · rw [if_pos c108] at hk
                      refine zi_a (st' := .int 0 :: _) rfl rfl rfl ?_
                      cases hk
                      exact zi_rz rfl rfl (Or.inl rfl) (k w h)
                    · rw [if_neg c108] at hk
                      refine zi_a (st' := .int 1 :: _) rfl rfl rfl ?_
                      refine zi_go rfl rfl rfl (tgt := 364) (by decide) ?_
                      cases hk
                      exact zi_rz rfl rfl (Or.inr rfl) (k w h)
    rw [if_neg e87] at hk
    by_cases e109 : (σ.1.1 1 0 i1) = 20
    · rw [if_pos e109] at hk
      refine zi_si rfl c2 (off := 361) (by rw [e109]; rfl) (tgt := 365) (by decide) ?_
      refine zi_l rfl rfl rfl ?_
      refine zi_l rfl rfl rfl ?_
      by_cases q110 : i1 < σ.2.1
      case neg => rw [if_neg q110] at hk; cases hk
      rw [if_pos q110] at hk
      cases c111 : cF_takePlace i1 a2 σ with
      | none => rw [c111] at hk; cases hk
      | some q1 =>
        obtain ⟨v112, m113⟩ := q1
        rw [c111] at hk
        dsimp only at hk
        refine zi_v rfl rfl rfl (h.shP q110) rfl rfl rfl (zOk.deep (cT_takePlace (q := 0) (by omega) c111 h (fun w h => ?_)) (by omega))
        by_cases q114 : v112 = 0 ∨ v112 = 1
        case neg => rw [if_neg q114] at hk; cases hk
        rw [if_pos q114] at hk
        cases hk
        exact zi_rz rfl rfl q114 (k w h)
    rw [if_neg e109] at hk
    by_cases e115 : (σ.1.1 1 0 i1) = 21
    · rw [if_pos e115] at hk
      refine zi_si rfl c2 (off := 367) (by rw [e115]; rfl) (tgt := 371) (by decide) ?_
      refine zi_l rfl rfl rfl ?_
      refine zi_l rfl rfl rfl ?_
      refine zi_l rfl rfl rfl ?_
      cases c116 : cF_partAt a2 σ with
      | none => rw [c116] at hk; cases hk
      | some q1 =>
        obtain ⟨v117, m118⟩ := q1
        rw [c116] at hk
        dsimp only at hk
        refine zi_v rfl rfl rfl (h.sh (o := 1) (c := 2) (n := 2) (by decide)) rfl rfl rfl (zOk.deep (cT_partAt (q := 0) (by omega) c116 h (fun w h => ?_)) (by omega))
        by_cases q119 : i1 < m118.2.1
        case neg => rw [if_neg q119] at hk; cases hk
        rw [if_pos q119] at hk
        cases c120 : cF_takeStatement i1 v117 m118 with
        | none => rw [c120] at hk; cases hk
        | some q1 =>
          obtain ⟨v121, m122⟩ := q1
          rw [c120] at hk
          dsimp only at hk
          refine zi_v rfl rfl rfl (h.shP q119) rfl rfl (by generalize v117 = o0; cases o0 <;> rfl) (zOk.deep (cT_takeStatement (q := 1) (by omega) c120 h (fun w h => ?_)) (by omega))
          refine zi_ifd rfl rfl rfl (tgt := 399) (by decide) (fun c123 => ?_) (fun c123 => ?_)
          · rw [if_pos c123] at hk
            refine zi_a (st' := .int 0 :: _) rfl rfl rfl ?_
            cases hk
            exact zi_rz rfl rfl (Or.inl rfl) (k w h)
          · rw [if_neg c123] at hk
            refine zi_l rfl rfl rfl ?_
            refine zi_l rfl rfl rfl ?_
            refine zi_l rfl rfl rfl ?_
            cases c124 : cF_partAt a3 m122 with
            | none => rw [c124] at hk; cases hk
            | some q1 =>
              obtain ⟨v125, m126⟩ := q1
              rw [c124] at hk
              dsimp only at hk
              refine zi_v rfl rfl rfl (h.sh (o := 1) (c := 2) (n := 2) (by decide)) rfl rfl rfl (zOk.deep (cT_partAt (q := 0) (by omega) c124 h (fun w h => ?_)) (by omega))
              by_cases q127 : i1 < m126.2.1
              case neg => rw [if_neg q127] at hk; cases hk
              rw [if_pos q127] at hk
              cases c128 : cF_takeClosing i1 v125 m126 with
              | none => rw [c128] at hk; cases hk
              | some q1 =>
                obtain ⟨v129, m130⟩ := q1
                rw [c128] at hk
                dsimp only at hk
                refine zi_v rfl rfl rfl (h.shP q127) rfl rfl (by generalize v125 = o0; cases o0 <;> rfl) (zOk.deep (cT_takeClosing (q := 2) (by omega) c128 h (fun w h => ?_)) (by omega))
                refine zi_ifd rfl rfl rfl (tgt := 399) (by decide) (fun c131 => ?_) (fun c131 => ?_)
                · rw [if_pos c131] at hk
                  refine zi_a (st' := .int 0 :: _) rfl rfl rfl ?_
                  cases hk
                  exact zi_rz rfl rfl (Or.inl rfl) (k w h)
                · rw [if_neg c131] at hk
                  refine zi_a (st' := .int 1 :: _) rfl rfl rfl ?_
                  refine zi_go rfl rfl rfl (tgt := 400) (by decide) ?_
                  cases hk
                  exact zi_rz rfl rfl (Or.inr rfl) (k w h)
    rw [if_neg e115] at hk
    cases hk
