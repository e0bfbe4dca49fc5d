/-! the class decompiled: functions over its state, and that its code runs them (by wip/whole/gen5.py) -/
def cF_layOut_50 (g_layOut : Option Nat → cS → Option (Option Nat × cS)) (l1 : Nat) (l2 : Nat) (σ : cS) : Option (Option Nat × cS) :=
  cPut (cu1 σ 4 3 0 ((σ.1.1 4 3 0) + (1 : Int32))) fun m1 => if l2 < m1.2.2.1 then match cF_lay l2 (some l1) m1 with | none => none | some (v4, m5) => if m1.2.2.1 ≤ m5.2.2.1 then if l1 < m5.2.1 then if l2 < m5.2.2.1 then match g_layOut (m5.1.2.2 1 6 l1) m5 with | none => none | some (v10, m11) => if m5.2.2.1 ≤ m11.2.2.1 then if l2 < m11.2.2.1 then if cin v10 m11.2.2.1 = true then cPut (cu3 m11 3 5 l2 v10) fun m15 => if l1 < m15.2.1 then if l2 < m15.2.2.1 then match g_layOut (m15.1.2.2 1 7 l1) m15 with | none => none | some (v19, m20) => if m15.2.2.1 ≤ m20.2.2.1 then if l2 < m20.2.2.1 then if cin v19 m20.2.2.1 = true then cPut (cu3 m20 3 6 l2 v19) fun m24 => some ((some l2), m24) else none else none else none else none else none else none else none else none else none else none else none else none
theorem cT_layOut_50 {S : zS} {q : Nat} {w w0 : zW} {Post : Option Value → zW → Prop} {b0 : Nat} {pa sa : Nat → Nat} {σ σ2 : cS} {v : Option Nat} {n0 : Nat} {s0 : Nat → Nat} {g_layOut : Option Nat → cS → Option (Option Nat × cS)} {l1 : Nat} {l2 : Nat} (hq : 2 ≤ q) (H_layOut : ∀ {x1 : Option Nat} {ν ν2 : cS} {y : Option Nat} {w : zW} {sa : Nat → Nat} {P : Option Value → zW → Prop}, g_layOut x1 ν = some (y, ν2) → cW b0 w0 pa sa ν w → (∀ sa2 w2, (∀ i, i < ν.2.2.1 → sa2 i = sa i) → cW b0 w0 pa sa2 ν2 w2 → P (some (cr sa2 y)) w2) → zOk S q 27 0 (lv_args 0 [.ref (b0 + 3), cr pa x1]) [] w P) (hn : n0 ≤ σ.2.2.1) (hs : ∀ i, i < n0 → sa i = s0 i) (hk : cF_layOut_50 g_layOut l1 l2 σ = some (v, σ2)) (h : cW b0 w0 pa sa σ w) (k : ∀ (sa2 : Nat → Nat) (w2 : zW), (∀ i, i < n0 → sa2 i = s0 i) → cW b0 w0 pa sa2 σ2 w2 → Post (some (cr sa2 v)) w2) : zOk S (q + 1) 27 50 [(0, .ref (b0 + 3)), (1, .ref (pa l1)), (2, .ref (sa l2))] [] w Post := by
  unfold cF_layOut_50 at hk
  refine zi_l rfl rfl rfl ?_
  refine zi_a rfl rfl rfl ?_
  refine zc_gv (o := 3) (n := 10) (v := .int (σ.1.1 4 3 0)) h rfl rfl rfl (by decide) (by decide) rfl ?_
  refine zi_a (st' := .int 1 :: _) rfl rfl rfl ?_
  refine zi_a rfl rfl rfl ?_
  refine zc_pv (o := 3) (n := 10) h rfl rfl rfl (by decide) (by decide) rfl ⟨rfl, rfl, Or.inl rfl⟩ (fun w h => ?_)
  have hn : n0 ≤ (cu1 σ 4 3 0 ((σ.1.1 4 3 0) + (1 : Int32))).2.2.1 := hn
  generalize cu1 σ 4 3 0 ((σ.1.1 4 3 0) + (1 : Int32)) = m1 at h hk hn
  rw [cPut_eq] at hk
  refine zi_l rfl rfl rfl ?_
  refine zi_l rfl rfl rfl ?_
  by_cases q2 : l2 < m1.2.2.1
  case neg => rw [if_neg q2] at hk; cases hk
  rw [if_pos q2] at hk
  cases c3 : cF_lay l2 (some l1) m1 with
  | none => rw [c3] at hk; cases hk
  | some q1 =>
    obtain ⟨v4, m5⟩ := q1
    rw [c3] at hk
    dsimp only at hk
    refine zi_v rfl rfl rfl (h.shS q2) rfl rfl rfl (zOk.deep (cT_lay (q := 0) (by omega) c3 h (fun w h => ?_)) (by omega))
    by_cases q6 : m1.2.2.1 ≤ m5.2.2.1
    case neg => rw [if_neg q6] at hk; cases hk
    rw [if_pos q6] at hk
    have hn : n0 ≤ m5.2.2.1 := Nat.le_trans hn q6
    refine zi_l rfl rfl rfl ?_
    refine zi_l rfl rfl rfl ?_
    refine zi_l rfl rfl rfl ?_
    by_cases q7 : l1 < m5.2.1
    case neg => rw [if_neg q7] at hk; cases hk
    rw [if_pos q7] at hk
    refine zc_gP (v := cr pa (m5.1.2.2 1 6 l1)) h rfl rfl rfl q7 rfl ?_
    by_cases q8 : l2 < m5.2.2.1
    case neg => rw [if_neg q8] at hk; cases hk
    rw [if_pos q8] at hk
    cases c9 : g_layOut (m5.1.2.2 1 6 l1) m5 with
    | none => rw [c9] at hk; cases hk
    | some q1 =>
      obtain ⟨v10, m11⟩ := q1
      rw [c9] at hk
      dsimp only at hk
      refine zi_v rfl rfl rfl (h.sh (o := 3) (c := 4) (n := 10) (by decide)) rfl rfl (by generalize (m5.1.2.2 1 6 l1) = o0; cases o0 <;> rfl) (zOk.deep (H_layOut c9 h (fun sa w hs2 h => ?_)) (by omega))
      rw [← hs2 l2 q8]
      have hs : ∀ i, i < n0 → sa i = s0 i := fun i hi => (hs2 i (by omega)).trans (hs i hi)
      by_cases q12 : m5.2.2.1 ≤ m11.2.2.1
      case neg => rw [if_neg q12] at hk; cases hk
      rw [if_pos q12] at hk
      have hn : n0 ≤ m11.2.2.1 := Nat.le_trans hn q12
      by_cases q13 : l2 < m11.2.2.1
      case neg => rw [if_neg q13] at hk; cases hk
      rw [if_pos q13] at hk
      by_cases q14 : cin v10 m11.2.2.1 = true
      case neg => rw [if_neg q14] at hk; cases hk
      rw [if_pos q14] at hk
      refine zc_pS4 h rfl rfl rfl q13 rfl (c_pf (by decide)) q14 (fun w h => ?_)
      have hn : n0 ≤ (cu3 m11 3 5 l2 v10).2.2.1 := hn
      generalize cu3 m11 3 5 l2 v10 = m15 at h hk hn
      rw [cPut_eq] at hk
      refine zi_l rfl rfl rfl ?_
      refine zi_l rfl rfl rfl ?_
      refine zi_l rfl rfl rfl ?_
      by_cases q16 : l1 < m15.2.1
      case neg => rw [if_neg q16] at hk; cases hk
      rw [if_pos q16] at hk
      refine zc_gP (v := cr pa (m15.1.2.2 1 7 l1)) h rfl rfl rfl q16 rfl ?_
      by_cases q17 : l2 < m15.2.2.1
      case neg => rw [if_neg q17] at hk; cases hk
      rw [if_pos q17] at hk
      cases c18 : g_layOut (m15.1.2.2 1 7 l1) m15 with
      | none => rw [c18] at hk; cases hk
      | some q1 =>
        obtain ⟨v19, m20⟩ := q1
        rw [c18] at hk
        dsimp only at hk
        refine zi_v rfl rfl rfl (h.sh (o := 3) (c := 4) (n := 10) (by decide)) rfl rfl (by generalize (m15.1.2.2 1 7 l1) = o0; cases o0 <;> rfl) (zOk.deep (H_layOut c18 h (fun sa w hs2 h => ?_)) (by omega))
        rw [← hs2 l2 q17]
        have hs : ∀ i, i < n0 → sa i = s0 i := fun i hi => (hs2 i (by omega)).trans (hs i hi)
        by_cases q21 : m15.2.2.1 ≤ m20.2.2.1
        case neg => rw [if_neg q21] at hk; cases hk
        rw [if_pos q21] at hk
        have hn : n0 ≤ m20.2.2.1 := Nat.le_trans hn q21
        by_cases q22 : l2 < m20.2.2.1
        case neg => rw [if_neg q22] at hk; cases hk
        rw [if_pos q22] at hk
        by_cases q23 : cin v19 m20.2.2.1 = true
        case neg => rw [if_neg q23] at hk; cases hk
        rw [if_pos q23] at hk
        refine zc_pS4 h rfl rfl rfl q22 rfl (c_pf (by decide)) q23 (fun w h => ?_)
        have hn : n0 ≤ (cu3 m20 3 6 l2 v19).2.2.1 := hn
        generalize cu3 m20 3 6 l2 v19 = m24 at h hk hn
        rw [cPut_eq] at hk
        refine zi_l rfl rfl rfl ?_
        cases hk
        exact zi_rr (p := sa) (o := (some l2)) rfl rfl (k sa w hs h)
def cF_layOut (g_layOut : Option Nat → cS → Option (Option Nat × cS)) (a1 : Option Nat) (σ : cS) : Option (Option Nat × cS) :=
  match a1 with | none => (some (none, σ)) | some i1 => (if (σ.1.1 4 3 0) < (Int32.ofNat 500) then (if zix (σ.1.1 4 3 0) 500 then match (σ.1.2.2 20 0 ((σ.1.1 4 3 0)).toNatClampNeg) with | none => (cPut (cnS σ) fun m5 => if (σ.2.2.1) < m5.2.2.1 then match cF_Spot (σ.2.2.1) m5 with | none => none | some (v8, m9) => if m5.2.2.1 ≤ m9.2.2.1 then if (σ.2.2.1) < m9.2.2.1 then if zix (m9.1.1 4 3 0) 500 then cPut (cu3 m9 20 0 ((m9.1.1 4 3 0)).toNatClampNeg (some (σ.2.2.1))) fun m13 => cF_layOut_50 g_layOut i1 (σ.2.2.1) m13 else none else none else none else none) | some i4 => (cF_layOut_50 g_layOut i1 i4 σ) else none) else (some (none, σ)))
theorem cT_layOut {S : zS} {q : Nat} {w w0 : zW} {Post : Option Value → zW → Prop} {b0 : Nat} {pa sa : Nat → Nat} {σ σ2 : cS} {v : Option Nat} {n0 : Nat} {s0 : Nat → Nat} {g_layOut : Option Nat → cS → Option (Option Nat × cS)} {a1 : Option Nat} (hq : 2 ≤ q) (H_layOut : ∀ {x1 : Option Nat} {ν ν2 : cS} {y : Option Nat} {w : zW} {sa : Nat → Nat} {P : Option Value → zW → Prop}, g_layOut x1 ν = some (y, ν2) → cW b0 w0 pa sa ν w → (∀ sa2 w2, (∀ i, i < ν.2.2.1 → sa2 i = sa i) → cW b0 w0 pa sa2 ν2 w2 → P (some (cr sa2 y)) w2) → zOk S q 27 0 (lv_args 0 [.ref (b0 + 3), cr pa x1]) [] w P) (hn : n0 ≤ σ.2.2.1) (hs : ∀ i, i < n0 → sa i = s0 i) (hk : cF_layOut g_layOut a1 σ = some (v, σ2)) (h : cW b0 w0 pa sa σ w) (k : ∀ (sa2 : Nat → Nat) (w2 : zW), (∀ i, i < n0 → sa2 i = s0 i) → cW b0 w0 pa sa2 σ2 w2 → Post (some (cr sa2 v)) w2) : zOk S (q + 1) 27 0 (lv_args 0 [.ref (b0 + 3), cr pa a1]) [] w Post := by
  unfold cF_layOut at hk
  cases a1 with
  | none =>
    dsimp only at hk
    refine zi_l rfl rfl rfl ?_
    refine zi_go rfl rfl rfl (tgt := 16) (by decide) ?_
    refine zi_a rfl rfl rfl ?_
    cases hk
    exact zi_rr (p := sa) (o := none) rfl rfl (k sa w hs h)
  | some i1 =>
    dsimp only at hk
    refine zi_l rfl rfl rfl ?_
    refine zi_stay rfl rfl rfl (tgt := 16) (by decide) ?_
    refine zi_l rfl rfl rfl ?_
    refine zc_gv (o := 3) (n := 10) (v := .int (σ.1.1 4 3 0)) h rfl rfl rfl (by decide) (by decide) rfl ?_
    refine zi_l rfl rfl rfl ?_
    refine zc_gf (c := 4) (k := 2) (o := 3) (n := 10) (t := 15) h rfl rfl rfl (by decide) (by decide) ?_
    refine zc_len (o := 15) (c := 104) (n := 500) h rfl (by decide) rfl ?_
    refine zi_ifd rfl rfl rfl (tgt := 18) (by decide) (fun c1 => ?_) (fun c1 => ?_)
    · rw [if_pos c1] at hk
      refine zi_l rfl rfl rfl ?_
      refine zc_gf (c := 4) (k := 2) (o := 3) (n := 10) (t := 15) h rfl rfl rfl (by decide) (by decide) ?_
      refine zi_l rfl rfl rfl ?_
      refine zc_gv (o := 3) (n := 10) (v := .int (σ.1.1 4 3 0)) h rfl rfl rfl (by decide) (by decide) rfl ?_
      by_cases q2 : zix (σ.1.1 4 3 0) 500
      case neg => rw [if_neg q2] at hk; cases hk
      rw [if_pos q2] at hk
      refine zc_ls h rfl q2 ?_
      cases e3 : (σ.1.2.2 20 0 ((σ.1.1 4 3 0)).toNatClampNeg) with
      | none =>
        rw [e3] at hk
        try rw [e3]
        dsimp only at hk
        refine zi_l rfl rfl rfl ?_
        refine zi_l rfl rfl rfl ?_
        refine zi_stay rfl rfl rfl (tgt := 50) (by decide) ?_
        refine zc_newS h rfl rfl (fun sa w hs2 h => ?_)
        have hs : ∀ i, i < n0 → sa i = s0 i := fun i hi => (hs2 i (by omega)).trans (hs i hi)
        have hn : n0 ≤ (cnS σ).2.2.1 := Nat.le_succ_of_le hn
        generalize cnS σ = m5 at h hk hn
        rw [cPut_eq] at hk
        refine zi_a rfl rfl rfl ?_
        by_cases q6 : (σ.2.2.1) < m5.2.2.1
        case neg => rw [if_neg q6] at hk; cases hk
        rw [if_pos q6] at hk
        cases c7 : cF_Spot (σ.2.2.1) m5 with
        | none => rw [c7] at hk; cases hk
        | some q1 =>
          obtain ⟨v8, m9⟩ := q1
          rw [c7] at hk
          dsimp only at hk
          refine zi_i rfl rfl rfl rfl rfl (zOk.deep (cT_Spot (q := 1) (by omega) c7 h (fun w h => ?_)) (by omega))
          by_cases q10 : m5.2.2.1 ≤ m9.2.2.1
          case neg => rw [if_neg q10] at hk; cases hk
          rw [if_pos q10] at hk
          have hn : n0 ≤ m9.2.2.1 := Nat.le_trans hn q10
          refine zi_l rfl rfl rfl ?_
          refine zi_l rfl rfl rfl ?_
          refine zc_gf (c := 4) (k := 2) (o := 3) (n := 10) (t := 15) h rfl rfl rfl (by decide) (by decide) ?_
          refine zi_l rfl rfl rfl ?_
          refine zc_gv (o := 3) (n := 10) (v := .int (m9.1.1 4 3 0)) h rfl rfl rfl (by decide) (by decide) rfl ?_
          refine zi_l rfl rfl rfl ?_
          by_cases q11 : (σ.2.2.1) < m9.2.2.1
          case neg => rw [if_neg q11] at hk; cases hk
          rw [if_pos q11] at hk
          by_cases q12 : zix (m9.1.1 4 3 0) 500
          case neg => rw [if_neg q12] at hk; cases hk
          rw [if_pos q12] at hk
          refine zc_ss h rfl q11 q12 (fun w h => ?_)
          have hn : n0 ≤ (cu3 m9 20 0 ((m9.1.1 4 3 0)).toNatClampNeg (some (σ.2.2.1))).2.2.1 := hn
          generalize cu3 m9 20 0 ((m9.1.1 4 3 0)).toNatClampNeg (some (σ.2.2.1)) = m13 at h hk hn
          rw [cPut_eq] at hk
          exact cT_layOut_50 hq H_layOut hn hs hk h k
      | some i4 =>
        rw [e3] at hk
        try rw [e3]
        dsimp only at hk
        refine zi_l rfl rfl rfl ?_
        refine zi_l rfl rfl rfl ?_
        refine zi_go rfl rfl rfl (tgt := 50) (by decide) ?_
        exact cT_layOut_50 hq H_layOut hn hs hk h k
    · rw [if_neg c1] at hk
      refine zi_a rfl rfl rfl ?_
      cases hk
      exact zi_rr (p := sa) (o := none) rfl rfl (k sa w hs h)
def cF_beginRun (g_layOut : Option Nat → cS → Option (Option Nat × cS)) (a1 : Option Nat) (σ : cS) : Option (Unit × cS) :=
  match a1 with | none => (match cF_clearForRun  σ with | none => none | some (v2, m3) => if σ.2.2.1 ≤ m3.2.2.1 then match cF_clear  m3 with | none => none | some (v6, m7) => if m3.2.2.1 ≤ m7.2.2.1 then cPut (cu1 m7 4 6 0 (0 : Int32)) fun m9 => cPut (cu1 m9 4 3 0 (0 : Int32)) fun m10 => match g_layOut none m10 with | none => none | some (v12, m13) => if m10.2.2.1 ≤ m13.2.2.1 then if cin v12 m13.2.2.1 = true then cPut (cu3 m13 4 4 0 v12) fun m16 => cPut (cu1 m16 4 5 0 (0 : Int32)) fun m17 => some ((), m17) else none else none else none else none) | some i1 => (match cF_clearForRun  σ with | none => none | some (v19, m20) => if σ.2.2.1 ≤ m20.2.2.1 then match cF_clear  m20 with | none => none | some (v23, m24) => if m20.2.2.1 ≤ m24.2.2.1 then cPut (cu1 m24 4 6 0 (0 : Int32)) fun m26 => cPut (cu1 m26 4 3 0 (0 : Int32)) fun m27 => match g_layOut (some i1) m27 with | none => none | some (v29, m30) => if m27.2.2.1 ≤ m30.2.2.1 then if cin v29 m30.2.2.1 = true then cPut (cu3 m30 4 4 0 v29) fun m33 => cPut (cu1 m33 4 5 0 (0 : Int32)) fun m34 => some ((), m34) else none else none else none else none)
theorem cT_beginRun {S : zS} {q : Nat} {w w0 : zW} {Post : Option Value → zW → Prop} {b0 : Nat} {pa sa : Nat → Nat} {σ σ2 : cS} {v : Unit} {n0 : Nat} {s0 : Nat → Nat} {g_layOut : Option Nat → cS → Option (Option Nat × cS)} {a1 : Option Nat} (hq : 2 ≤ q) (H_layOut : ∀ {x1 : Option Nat} {ν ν2 : cS} {y : Option Nat} {w : zW} {sa : Nat → Nat} {P : Option Value → zW → Prop}, g_layOut x1 ν = some (y, ν2) → cW b0 w0 pa sa ν w → (∀ sa2 w2, (∀ i, i < ν.2.2.1 → sa2 i = sa i) → cW b0 w0 pa sa2 ν2 w2 → P (some (cr sa2 y)) w2) → zOk S q 27 0 (lv_args 0 [.ref (b0 + 3), cr pa x1]) [] w P) (hn : n0 ≤ σ.2.2.1) (hs : ∀ i, i < n0 → sa i = s0 i) (hk : cF_beginRun g_layOut a1 σ = some (v, σ2)) (h : cW b0 w0 pa sa σ w) (k : ∀ (sa2 : Nat → Nat) (w2 : zW), (∀ i, i < n0 → sa2 i = s0 i) → cW b0 w0 pa sa2 σ2 w2 → Post none w2) : zOk S (q + 1) 23 0 (lv_args 0 [.ref (b0 + 3), cr pa a1]) [] w Post := by
  unfold cF_beginRun at hk
  cases a1 with
  | none =>
    dsimp only at hk
    refine zi_l rfl rfl rfl ?_
    refine zc_gf (c := 4) (k := 0) (o := 3) (n := 10) (t := 4) h rfl rfl rfl (by decide) (by decide) ?_
    cases c1 : cF_clearForRun  σ with
    | none => rw [c1] at hk; cases hk
    | some q1 =>
      obtain ⟨v2, m3⟩ := q1
      rw [c1] at hk
      dsimp only at hk
      refine zi_v rfl rfl rfl (h.sh (o := 4) (c := 5) (n := 5) (by decide)) rfl rfl rfl (zOk.deep (cT_clearForRun (q := 1) (by omega) c1 h (fun w h => ?_)) (by omega))
      by_cases q4 : σ.2.2.1 ≤ m3.2.2.1
      case neg => rw [if_neg q4] at hk; cases hk
      rw [if_pos q4] at hk
      have hn : n0 ≤ m3.2.2.1 := Nat.le_trans hn q4
      refine zi_l rfl rfl rfl ?_
      refine zc_gf (c := 4) (k := 1) (o := 3) (n := 10) (t := 10) h rfl rfl rfl (by decide) (by decide) ?_
      cases c5 : cF_clear  m3 with
      | none => rw [c5] at hk; cases hk
      | some q1 =>
        obtain ⟨v6, m7⟩ := q1
        rw [c5] at hk
        dsimp only at hk
        refine zi_v rfl rfl rfl (h.sh (o := 10) (c := 0) (n := 6) (by decide)) rfl rfl rfl (zOk.deep (cT_clear (q := 0) (by omega) c5 h (fun w h => ?_)) (by omega))
        by_cases q8 : m3.2.2.1 ≤ m7.2.2.1
        case neg => rw [if_neg q8] at hk; cases hk
        rw [if_pos q8] at hk
        have hn : n0 ≤ m7.2.2.1 := Nat.le_trans hn q8
        refine zi_l rfl rfl rfl ?_
        refine zi_a (st' := .int 0 :: _) rfl rfl rfl ?_
        refine zc_pv (o := 3) (n := 10) h rfl rfl rfl (by decide) (by decide) rfl ⟨rfl, rfl, Or.inl rfl⟩ (fun w h => ?_)
        have hn : n0 ≤ (cu1 m7 4 6 0 (0 : Int32)).2.2.1 := hn
        generalize cu1 m7 4 6 0 (0 : Int32) = m9 at h hk hn
        rw [cPut_eq] at hk
        refine zi_l rfl rfl rfl ?_
        refine zi_a (st' := .int 0 :: _) rfl rfl rfl ?_
        refine zc_pv (o := 3) (n := 10) h rfl rfl rfl (by decide) (by decide) rfl ⟨rfl, rfl, Or.inl rfl⟩ (fun w h => ?_)
        have hn : n0 ≤ (cu1 m9 4 3 0 (0 : Int32)).2.2.1 := hn
        generalize cu1 m9 4 3 0 (0 : Int32) = m10 at h hk hn
        rw [cPut_eq] at hk
        refine zi_l rfl rfl rfl ?_
        refine zi_l rfl rfl rfl ?_
        refine zi_l rfl rfl rfl ?_
        cases c11 : g_layOut none m10 with
        | none => rw [c11] at hk; cases hk
        | some q1 =>
          obtain ⟨v12, m13⟩ := q1
          rw [c11] at hk
          dsimp only at hk
          refine zi_v rfl rfl rfl (h.sh (o := 3) (c := 4) (n := 10) (by decide)) rfl rfl rfl (zOk.deep (H_layOut c11 h (fun sa w hs2 h => ?_)) (by omega))
          have hs : ∀ i, i < n0 → sa i = s0 i := fun i hi => (hs2 i (by omega)).trans (hs i hi)
          by_cases q14 : m10.2.2.1 ≤ m13.2.2.1
          case neg => rw [if_neg q14] at hk; cases hk
          rw [if_pos q14] at hk
          have hn : n0 ≤ m13.2.2.1 := Nat.le_trans hn q14
          by_cases q15 : cin v12 m13.2.2.1 = true
          case neg => rw [if_neg q15] at hk; cases hk
          rw [if_pos q15] at hk
          refine zc_pr (o := 3) (n := 10) h rfl rfl rfl (by decide) (by decide) rfl (c_pf (by decide)) q15 (fun w h => ?_)
          have hn : n0 ≤ (cu3 m13 4 4 0 v12).2.2.1 := hn
          generalize cu3 m13 4 4 0 v12 = m16 at h hk hn
          rw [cPut_eq] at hk
          refine zi_l rfl rfl rfl ?_
          refine zi_a (st' := .int 0 :: _) rfl rfl rfl ?_
          refine zc_pv (o := 3) (n := 10) h rfl rfl rfl (by decide) (by decide) rfl ⟨rfl, rfl, Or.inl rfl⟩ (fun w h => ?_)
          have hn : n0 ≤ (cu1 m16 4 5 0 (0 : Int32)).2.2.1 := hn
          generalize cu1 m16 4 5 0 (0 : Int32) = m17 at h hk hn
          rw [cPut_eq] at hk
          cases hk
          exact zi_ret rfl rfl rfl (k sa w hs h)
  | some i1 =>
    dsimp only at hk
    refine zi_l rfl rfl rfl ?_
    refine zc_gf (c := 4) (k := 0) (o := 3) (n := 10) (t := 4) h rfl rfl rfl (by decide) (by decide) ?_
    cases c18 : cF_clearForRun  σ with
    | none => rw [c18] at hk; cases hk
    | some q1 =>
      obtain ⟨v19, m20⟩ := q1
      rw [c18] at hk
      dsimp only at hk
      refine zi_v rfl rfl rfl (h.sh (o := 4) (c := 5) (n := 5) (by decide)) rfl rfl rfl (zOk.deep (cT_clearForRun (q := 1) (by omega) c18 h (fun w h => ?_)) (by omega))
      by_cases q21 : σ.2.2.1 ≤ m20.2.2.1
      case neg => rw [if_neg q21] at hk; cases hk
      rw [if_pos q21] at hk
      have hn : n0 ≤ m20.2.2.1 := Nat.le_trans hn q21
      refine zi_l rfl rfl rfl ?_
      refine zc_gf (c := 4) (k := 1) (o := 3) (n := 10) (t := 10) h rfl rfl rfl (by decide) (by decide) ?_
      cases c22 : cF_clear  m20 with
      | none => rw [c22] at hk; cases hk
      | some q1 =>
        obtain ⟨v23, m24⟩ := q1
        rw [c22] at hk
        dsimp only at hk
        refine zi_v rfl rfl rfl (h.sh (o := 10) (c := 0) (n := 6) (by decide)) rfl rfl rfl (zOk.deep (cT_clear (q := 0) (by omega) c22 h (fun w h => ?_)) (by omega))
        by_cases q25 : m20.2.2.1 ≤ m24.2.2.1
        case neg => rw [if_neg q25] at hk; cases hk
        rw [if_pos q25] at hk
        have hn : n0 ≤ m24.2.2.1 := Nat.le_trans hn q25
        refine zi_l rfl rfl rfl ?_
        refine zi_a (st' := .int 0 :: _) rfl rfl rfl ?_
        refine zc_pv (o := 3) (n := 10) h rfl rfl rfl (by decide) (by decide) rfl ⟨rfl, rfl, Or.inl rfl⟩ (fun w h => ?_)
        have hn : n0 ≤ (cu1 m24 4 6 0 (0 : Int32)).2.2.1 := hn
        generalize cu1 m24 4 6 0 (0 : Int32) = m26 at h hk hn
        rw [cPut_eq] at hk
        refine zi_l rfl rfl rfl ?_
        refine zi_a (st' := .int 0 :: _) rfl rfl rfl ?_
        refine zc_pv (o := 3) (n := 10) h rfl rfl rfl (by decide) (by decide) rfl ⟨rfl, rfl, Or.inl rfl⟩ (fun w h => ?_)
        have hn : n0 ≤ (cu1 m26 4 3 0 (0 : Int32)).2.2.1 := hn
        generalize cu1 m26 4 3 0 (0 : Int32) = m27 at h hk hn
        rw [cPut_eq] at hk
        refine zi_l rfl rfl rfl ?_
        refine zi_l rfl rfl rfl ?_
        refine zi_l rfl rfl rfl ?_
        cases c28 : g_layOut (some i1) m27 with
        | none => rw [c28] at hk; cases hk
        | some q1 =>
          obtain ⟨v29, m30⟩ := q1
          rw [c28] at hk
          dsimp only at hk
          refine zi_v rfl rfl rfl (h.sh (o := 3) (c := 4) (n := 10) (by decide)) rfl rfl rfl (zOk.deep (H_layOut c28 h (fun sa w hs2 h => ?_)) (by omega))
          have hs : ∀ i, i < n0 → sa i = s0 i := fun i hi => (hs2 i (by omega)).trans (hs i hi)
          by_cases q31 : m27.2.2.1 ≤ m30.2.2.1
          case neg => rw [if_neg q31] at hk; cases hk
          rw [if_pos q31] at hk
          have hn : n0 ≤ m30.2.2.1 := Nat.le_trans hn q31
          by_cases q32 : cin v29 m30.2.2.1 = true
          case neg => rw [if_neg q32] at hk; cases hk
          rw [if_pos q32] at hk
          refine zc_pr (o := 3) (n := 10) h rfl rfl rfl (by decide) (by decide) rfl (c_pf (by decide)) q32 (fun w h => ?_)
          have hn : n0 ≤ (cu3 m30 4 4 0 v29).2.2.1 := hn
          generalize cu3 m30 4 4 0 v29 = m33 at h hk hn
          rw [cPut_eq] at hk
          refine zi_l rfl rfl rfl ?_
          refine zi_a (st' := .int 0 :: _) rfl rfl rfl ?_
          refine zc_pv (o := 3) (n := 10) h rfl rfl rfl (by decide) (by decide) rfl ⟨rfl, rfl, Or.inl rfl⟩ (fun w h => ?_)
          have hn : n0 ≤ (cu1 m33 4 5 0 (0 : Int32)).2.2.1 := hn
          generalize cu1 m33 4 5 0 (0 : Int32) = m34 at h hk hn
          rw [cPut_eq] at hk
          cases hk
          exact zi_ret rfl rfl rfl (k sa w hs h)
def cF_start (g_layOut : Option Nat → cS → Option (Option Nat × cS)) (a1 : Int32) (σ : cS) : Option (Int32 × cS) :=
  match cF_partAt a1 σ with | none => none | some (v2, m3) => if σ.2.2.1 ≤ m3.2.2.1 then match v2 with | none => (some ((-1 : Int32), m3)) | some i6 => (if i6 < m3.2.1 then match cF_isStatement i6 m3 with | none => none | some (v9, m10) => if m3.2.2.1 ≤ m10.2.2.1 then if ¬ v9 = 0 then (if i6 < m10.2.1 then if (lg_cmp (m10.1.2.1 1 9 i6) (500 : Int64)) ≤ 0 then (match cF_beginRun g_layOut (some i6) m10 with | none => none | some (v16, m17) => if m10.2.2.1 ≤ m17.2.2.1 then if i6 < m17.2.1 then some (((m17.1.2.1 1 9 i6)).toInt32, m17) else none else none) else (some ((-2 : Int32), m10)) else none) else (some ((-1 : Int32), m10)) else none else none) else none
theorem cT_start {S : zS} {q : Nat} {w w0 : zW} {Post : Option Value → zW → Prop} {b0 : Nat} {pa sa : Nat → Nat} {σ σ2 : cS} {v : Int32} {n0 : Nat} {s0 : Nat → Nat} {g_layOut : Option Nat → cS → Option (Option Nat × cS)} {a1 : Int32} (hq : 3 ≤ q) (H_layOut : ∀ {x1 : Option Nat} {ν ν2 : cS} {y : Option Nat} {w : zW} {sa : Nat → Nat} {P : Option Value → zW → Prop}, g_layOut x1 ν = some (y, ν2) → cW b0 w0 pa sa ν w → (∀ sa2 w2, (∀ i, i < ν.2.2.1 → sa2 i = sa i) → cW b0 w0 pa sa2 ν2 w2 → P (some (cr sa2 y)) w2) → zOk S q 27 0 (lv_args 0 [.ref (b0 + 3), cr pa x1]) [] w P) (hn : n0 ≤ σ.2.2.1) (hs : ∀ i, i < n0 → sa i = s0 i) (hk : cF_start g_layOut a1 σ = some (v, σ2)) (h : cW b0 w0 pa sa σ w) (k : ∀ (sa2 : Nat → Nat) (w2 : zW), (∀ i, i < n0 → sa2 i = s0 i) → cW b0 w0 pa sa2 σ2 w2 → Post (some (.int v)) w2) : zOk S (q + 2) 22 0 (lv_args 0 [.ref (b0 + 0), .int a1]) [] w Post := by
  unfold cF_start at hk
  refine zi_l rfl rfl rfl ?_
  refine zc_gf (c := 6) (k := 0) (o := 0) (n := 2) (t := 1) h rfl rfl rfl (by decide) (by decide) ?_
  refine zi_l rfl rfl rfl ?_
  cases c1 : cF_partAt a1 σ with
  | none => rw [c1] at hk; cases hk
  | some q1 =>
    obtain ⟨v2, m3⟩ := q1
    rw [c1] at hk
    dsimp only at hk
    refine zi_v rfl rfl rfl (h.sh (o := 1) (c := 2) (n := 2) (by decide)) rfl rfl rfl (zOk.deep (cT_partAt (q := 0) (by omega) c1 h (fun w h => ?_)) (by omega))
    by_cases q4 : σ.2.2.1 ≤ m3.2.2.1
    case neg => rw [if_neg q4] at hk; cases hk
    rw [if_pos q4] at hk
    have hn : n0 ≤ m3.2.2.1 := Nat.le_trans hn q4
    cases e5 : v2 with
    | none =>
      rw [e5] at hk
      try rw [e5]
      dsimp only at hk
      refine zi_l rfl rfl rfl ?_
      refine zi_l rfl rfl rfl ?_
      refine zi_go rfl rfl rfl (tgt := 20) (by decide) ?_
      refine zi_a (st' := .int (-1) :: _) rfl rfl rfl ?_
      cases hk
      exact zi_ri rfl rfl (k sa w hs h)
    | some i6 =>
      rw [e5] at hk
      try rw [e5]
      dsimp only at hk
      refine zi_l rfl rfl rfl ?_
      refine zi_l rfl rfl rfl ?_
      refine zi_stay rfl rfl rfl (tgt := 20) (by decide) ?_
      refine zi_l rfl rfl rfl ?_
      by_cases q7 : i6 < m3.2.1
      case neg => rw [if_neg q7] at hk; cases hk
      rw [if_pos q7] at hk
      cases c8 : cF_isStatement i6 m3 with
      | none => rw [c8] at hk; cases hk
      | some q1 =>
        obtain ⟨v9, m10⟩ := q1
        rw [c8] at hk
        dsimp only at hk
        refine zi_v rfl rfl rfl (h.shP q7) rfl rfl rfl (zOk.deep (cT_isStatement (q := 0) (by omega) c8 h (fun w h => ?_)) (by omega))
        by_cases q11 : m3.2.2.1 ≤ m10.2.2.1
        case neg => rw [if_neg q11] at hk; cases hk
        rw [if_pos q11] at hk
        have hn : n0 ≤ m10.2.2.1 := Nat.le_trans hn q11
        refine zi_ifd rfl rfl rfl (tgt := 22) (by decide) (fun c12 => ?_) (fun c12 => ?_)
        · rw [if_pos c12] at hk
          refine zi_l rfl rfl rfl ?_
          by_cases q13 : i6 < m10.2.1
          case neg => rw [if_neg q13] at hk; cases hk
          rw [if_pos q13] at hk
          refine zc_gP (v := .long (m10.1.2.1 1 9 i6)) h rfl rfl rfl q13 rfl ?_
          refine zi_c2 rfl rfl ?_
          refine zi_a rfl rfl rfl ?_
          refine zi_ifd rfl rfl rfl (tgt := 36) (by decide) (fun c14 => ?_) (fun c14 => ?_)
          · rw [if_pos c14] at hk
            refine zi_l rfl rfl rfl ?_
            refine zc_gf (c := 6) (k := 1) (o := 0) (n := 2) (t := 3) h rfl rfl rfl (by decide) (by decide) ?_
            refine zi_l rfl rfl rfl ?_
            cases c15 : cF_beginRun g_layOut (some i6) m10 with
            | none => rw [c15] at hk; cases hk
            | some q1 =>
              obtain ⟨v16, m17⟩ := q1
              rw [c15] at hk
              dsimp only at hk
              refine zi_v rfl rfl rfl (h.sh (o := 3) (c := 4) (n := 10) (by decide)) rfl rfl rfl (zOk.deep (cT_beginRun (q := q) (by omega) H_layOut (Nat.le_refl _) (fun _ _ => rfl) c15 h (fun sa w hs2 h => ?_)) (by omega))
              have hs : ∀ i, i < n0 → sa i = s0 i := fun i hi => (hs2 i (by omega)).trans (hs i hi)
              by_cases q18 : m10.2.2.1 ≤ m17.2.2.1
              case neg => rw [if_neg q18] at hk; cases hk
              rw [if_pos q18] at hk
              have hn : n0 ≤ m17.2.2.1 := Nat.le_trans hn q18
              refine zi_l rfl rfl rfl ?_
              by_cases q19 : i6 < m17.2.1
              case neg => rw [if_neg q19] at hk; cases hk
              rw [if_pos q19] at hk
              refine zc_gP (v := .long (m17.1.2.1 1 9 i6)) h rfl rfl rfl q19 rfl ?_
              refine zi_a rfl rfl rfl ?_
              cases hk
              exact zi_ri rfl rfl (k sa w hs h)
          · rw [if_neg c14] at hk
            refine zi_a (st' := .int (-2) :: _) rfl rfl rfl ?_
            cases hk
            exact zi_ri rfl rfl (k sa w hs h)
        · rw [if_neg c12] at hk
          refine zi_a (st' := .int (-1) :: _) rfl rfl rfl ?_
          cases hk
          exact zi_ri rfl rfl (k sa w hs h)
