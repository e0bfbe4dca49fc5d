/-! the class decompiled: functions over its state, and that its code runs them (by wip/whole/gen5.py) -/
def cF_reckon (g_reckon : Option Nat → cS → Option (Int64 × cS)) (a1 : Option Nat) (σ : cS) : Option (Int64 × cS) :=
  match a1 with | none => (some ((0 : Int64), σ)) | some i1 => (if (σ.1.1 4 8 0) = 0 then (if i1 < σ.2.1 then if ((σ.1.1 1 0 i1)).toInt < 30 ∨ 33 < ((σ.1.1 1 0 i1)).toInt then (if i1 < σ.2.1 then match g_reckon (σ.1.2.2 1 4 i1) σ with | none => none | some (v6, m7) => if i1 < m7.2.1 then match g_reckon (m7.1.2.2 1 5 i1) m7 with | none => none | some (v10, m11) => if i1 < m11.2.1 then if ((m11.1.1 1 0 i1)).toInt < 0 ∨ 5 < ((m11.1.1 1 0 i1)).toInt then (some ((0 : Int64), m11)) else if (m11.1.1 1 0 i1) = 0 then (some ((v6 + v10), m11)) else if (m11.1.1 1 0 i1) = 1 then (some ((v6 - v10), m11)) else if (m11.1.1 1 0 i1) = 2 then (some ((v6 * v10), m11)) else if (m11.1.1 1 0 i1) = 3 then (if (lg_cmp v10 (0 : Int64)) = 0 then (if ¬ (m11.1.1 4 8 0) = 0 then (some ((0 : Int64), m11)) else (if i1 < m11.2.1 then match cF_addAlarm (m11.1.1 4 6 0) (m11.1.1 1 1 i1) (1 : Int32) m11 with | none => none | some (v22, m23) => cPut (cu1 m23 4 8 0 (1 : Int32)) fun m24 => some ((0 : Int64), m24) else none)) else (if v10 = 0 then none else some ((v6 / v10), m11))) else if (m11.1.1 1 0 i1) = 4 then (if 0 ≤ (lg_cmp v6 v10) then (some ((0 : Int64), m11)) else (some ((1 : Int64), m11))) else if (m11.1.1 1 0 i1) = 5 then (if ¬ (lg_cmp v6 v10) = 0 then (some ((0 : Int64), m11)) else (some ((1 : Int64), m11))) else none else none else none else none) else if (σ.1.1 1 0 i1) = 30 then (if i1 < σ.2.1 then some ((σ.1.2.1 1 3 i1), σ) else none) else if (σ.1.1 1 0 i1) = 31 then (if i1 < σ.2.1 then some ((cget σ 11 (σ.1.1 1 2 i1)), σ) else none) else if (σ.1.1 1 0 i1) = 32 then (if i1 < σ.2.1 then some ((cget σ 12 (σ.1.1 1 2 i1)), σ) else none) else if (σ.1.1 1 0 i1) = 33 then (some (((σ.1.1 4 6 0)).toInt64, σ)) else none else none) else (some ((0 : Int64), σ)))
theorem cT_reckon {S : zS} {q : Nat} {w w0 : zW} {Post : Option Value → zW → Prop} {b0 : Nat} {pa sa : Nat → Nat} {σ σ2 : cS} {v : Int64} {g_reckon : Option Nat → cS → Option (Int64 × cS)} {a1 : Option Nat} (hq : 1 ≤ q) (H_reckon : ∀ {x1 : Option Nat} {ν ν2 : cS} {y : Int64} {w : zW} {P : Option Value → zW → Prop}, g_reckon x1 ν = some (y, ν2) → cW b0 w0 pa sa ν w → (∀ w2, cW b0 w0 pa sa ν2 w2 → P (some (.long y)) w2) → zOk S q 33 0 (lv_args 0 [.ref (b0 + 3), cr pa x1]) [] w P) (hk : cF_reckon g_reckon a1 σ = some (v, σ2)) (h : cW b0 w0 pa sa σ w) (k : ∀ w2, cW b0 w0 pa sa σ2 w2 → Post (some (.long v)) w2) : zOk S (q + 1) 33 0 (lv_args 0 [.ref (b0 + 3), cr pa a1]) [] w Post := by
  unfold cF_reckon at hk
  cases a1 with
  | none =>
    dsimp only at hk
    refine zi_l rfl rfl rfl ?_
    refine zi_go rfl rfl rfl (tgt := 11) (by decide) ?_
    refine zi_a (st' := .long 0 :: _) rfl rfl rfl ?_
    cases hk
    exact zi_rl rfl rfl (k w h)
  | some i1 =>
    dsimp only at hk
    refine zi_l rfl rfl rfl ?_
    refine zi_stay rfl rfl rfl (tgt := 11) (by decide) ?_
    refine zi_l rfl rfl rfl ?_
    refine zc_gv (o := 3) (n := 10) (v := .int (σ.1.1 4 8 0)) h rfl rfl rfl (by decide) (by decide) rfl ?_
    refine zi_ifd rfl rfl rfl (tgt := 13) (by decide) (fun c1 => ?_) (fun c1 => ?_)
    · rw [if_pos c1] at hk
      refine zi_l rfl rfl rfl ?_
      by_cases q2 : i1 < σ.2.1
      case neg => rw [if_neg q2] at hk; cases hk
      rw [if_pos q2] at hk
      refine zc_gP (v := .int (σ.1.1 1 0 i1)) h rfl rfl rfl q2 rfl ?_
      by_cases c3 : ((σ.1.1 1 0 i1)).toInt < 30 ∨ 33 < ((σ.1.1 1 0 i1)).toInt
      · rw [if_pos c3] at hk
        refine zi_sd rfl c3 (tgt := 89) (by decide) ?_
        refine zi_l rfl rfl rfl ?_
        refine zi_l rfl rfl rfl ?_
        by_cases q4 : i1 < σ.2.1
        case neg => rw [if_neg q4] at hk; cases hk
        rw [if_pos q4] at hk
        refine zc_gP (v := cr pa (σ.1.2.2 1 4 i1)) h rfl rfl rfl q4 rfl ?_
        cases c5 : g_reckon (σ.1.2.2 1 4 i1) σ with
        | none => rw [c5] at hk; cases hk
        | some q1 =>
          obtain ⟨v6, m7⟩ := q1
          rw [c5] at hk
          dsimp only at hk
          refine zi_v rfl rfl rfl (h.sh (o := 3) (c := 4) (n := 10) (by decide)) rfl rfl (by generalize (σ.1.2.2 1 4 i1) = o0; cases o0 <;> rfl) (zOk.deep (H_reckon c5 h (fun w h => ?_)) (by omega))
          refine zi_l rfl rfl rfl ?_
          refine zi_l rfl rfl rfl ?_
          refine zi_l rfl rfl rfl ?_
          by_cases q8 : i1 < m7.2.1
          case neg => rw [if_neg q8] at hk; cases hk
          rw [if_pos q8] at hk
          refine zc_gP (v := cr pa (m7.1.2.2 1 5 i1)) h rfl rfl rfl q8 rfl ?_
          cases c9 : g_reckon (m7.1.2.2 1 5 i1) m7 with
          | none => rw [c9] at hk; cases hk
          | some q1 =>
            obtain ⟨v10, m11⟩ := q1
            rw [c9] at hk
            dsimp only at hk
            refine zi_v rfl rfl rfl (h.sh (o := 3) (c := 4) (n := 10) (by decide)) rfl rfl (by generalize (m7.1.2.2 1 5 i1) = o0; cases o0 <;> rfl) (zOk.deep (H_reckon c9 h (fun w h => ?_)) (by omega))
            refine zi_l rfl rfl rfl ?_
            refine zi_l rfl rfl rfl ?_
            by_cases q12 : i1 < m11.2.1
            case neg => rw [if_neg q12] at hk; cases hk
            rw [if_pos q12] at hk
            refine zc_gP (v := .int (m11.1.1 1 0 i1)) h rfl rfl rfl q12 rfl ?_
            by_cases c13 : ((m11.1.1 1 0 i1)).toInt < 0 ∨ 5 < ((m11.1.1 1 0 i1)).toInt
            · rw [if_pos c13] at hk
              refine zi_sd rfl c13 (tgt := 235) (by decide) ?_
              refine zi_a (st' := .long 0 :: _) rfl rfl rfl ?_
              cases hk
              exact zi_rl rfl rfl (k w h)
            rw [if_neg c13] at hk
            by_cases e14 : (m11.1.1 1 0 i1) = 0
            · rw [if_pos e14] at hk
              refine zi_si rfl c13 (off := 40) (by rw [e14]; rfl) (tgt := 152) (by decide) ?_
              refine zi_l rfl rfl rfl ?_
              refine zi_l rfl rfl rfl ?_
              refine zi_a rfl rfl rfl ?_
              cases hk
              exact zi_rl rfl rfl (k w h)
            rw [if_neg e14] at hk
            by_cases e15 : (m11.1.1 1 0 i1) = 1
            · rw [if_pos e15] at hk
              refine zi_si rfl c13 (off := 45) (by rw [e15]; rfl) (tgt := 157) (by decide) ?_
              refine zi_l rfl rfl rfl ?_
              refine zi_l rfl rfl rfl ?_
              refine zi_a rfl rfl rfl ?_
              cases hk
              exact zi_rl rfl rfl (k w h)
            rw [if_neg e15] at hk
            by_cases e16 : (m11.1.1 1 0 i1) = 2
            · rw [if_pos e16] at hk
              refine zi_si rfl c13 (off := 50) (by rw [e16]; rfl) (tgt := 162) (by decide) ?_
              refine zi_l rfl rfl rfl ?_
              refine zi_l rfl rfl rfl ?_
              refine zi_a rfl rfl rfl ?_
              cases hk
              exact zi_rl rfl rfl (k w h)
            rw [if_neg e16] at hk
            by_cases e17 : (m11.1.1 1 0 i1) = 3
            · rw [if_pos e17] at hk
              refine zi_si rfl c13 (off := 55) (by rw [e17]; rfl) (tgt := 167) (by decide) ?_
              refine zi_l rfl rfl rfl ?_
              refine zi_a (st' := .long 0 :: _) rfl rfl rfl ?_
              refine zi_a rfl rfl rfl ?_
              refine zi_ifd rfl rfl rfl (tgt := 179) (by decide) (fun c18 => ?_) (fun c18 => ?_)
              · rw [if_pos c18] at hk
                refine zi_l rfl rfl rfl ?_
                refine zc_gv (o := 3) (n := 10) (v := .int (m11.1.1 4 8 0)) h rfl rfl rfl (by decide) (by decide) rfl ?_
                refine zi_ifd rfl rfl rfl (tgt := 207) (by decide) (fun c19 => ?_) (fun c19 => ?_)
                · rw [if_pos c19] at hk
                  refine zi_a (st' := .long 0 :: _) rfl rfl rfl ?_
                  cases hk
                  exact zi_rl rfl rfl (k w h)
                · rw [if_neg c19] at hk
                  refine zi_l rfl rfl rfl ?_
                  refine zc_gf (c := 4) (k := 1) (o := 3) (n := 10) (t := 10) h rfl rfl rfl (by decide) (by decide) ?_
                  refine zi_l rfl rfl rfl ?_
                  refine zc_gv (o := 3) (n := 10) (v := .int (m11.1.1 4 6 0)) h rfl rfl rfl (by decide) (by decide) rfl ?_
                  refine zi_l rfl rfl rfl ?_
                  by_cases q20 : i1 < m11.2.1
                  case neg => rw [if_neg q20] at hk; cases hk
                  rw [if_pos q20] at hk
                  refine zc_gP (v := .int (m11.1.1 1 1 i1)) h rfl rfl rfl q20 rfl ?_
                  refine zi_a (st' := .int 1 :: _) rfl rfl rfl ?_
                  cases c21 : cF_addAlarm (m11.1.1 4 6 0) (m11.1.1 1 1 i1) (1 : Int32) m11 with
                  | none => rw [c21] at hk; cases hk
                  | some q1 =>
                    obtain ⟨v22, m23⟩ := q1
                    rw [c21] at hk
                    dsimp only at hk
                    refine zi_v rfl rfl rfl (h.sh (o := 10) (c := 0) (n := 6) (by decide)) rfl rfl rfl (zOk.deep (cT_addAlarm (q := 0) (by omega) c21 h (fun w h => ?_)) (by omega))
                    refine zi_l rfl rfl rfl ?_
                    refine zi_a (st' := .int 1 :: _) rfl rfl rfl ?_
                    refine zc_pv (o := 3) (n := 10) h rfl rfl rfl (by decide) (by decide) rfl ⟨rfl, rfl, Or.inl rfl⟩ (fun w h => ?_)
                    generalize cu1 m23 4 8 0 (1 : Int32) = m24 at h hk
                    rw [cPut_eq] at hk
                    refine zi_a (st' := .long 0 :: _) rfl rfl rfl ?_
                    cases hk
                    exact zi_rl rfl rfl (k w h)
              · rw [if_neg c18] at hk
                refine zi_l rfl rfl rfl ?_
                refine zi_l rfl rfl rfl ?_
                by_cases q25 : v10 = 0
                case pos => rw [if_pos q25] at hk; cases hk
                rw [if_neg q25] at hk
                refine zi_a rfl rfl (if_neg q25) ?_
                cases hk
                exact zi_rl rfl rfl (k w h)
            rw [if_neg e17] at hk
            by_cases e26 : (m11.1.1 1 0 i1) = 4
            · rw [if_pos e26] at hk
              refine zi_si rfl c13 (off := 97) (by rw [e26]; rfl) (tgt := 209) (by decide) ?_
              refine zi_l rfl rfl rfl ?_
              refine zi_l rfl rfl rfl ?_
              refine zi_a rfl rfl rfl ?_
              refine zi_ifd rfl rfl rfl (tgt := 220) (by decide) (fun c27 => ?_) (fun c27 => ?_)
              · rw [if_pos c27] at hk
                refine zi_a (st' := .long 0 :: _) rfl rfl rfl ?_
                cases hk
                exact zi_rl rfl rfl (k w h)
              · rw [if_neg c27] at hk
                refine zi_a (st' := .long 1 :: _) rfl rfl rfl ?_
                refine zi_go rfl rfl rfl (tgt := 221) (by decide) ?_
                cases hk
                exact zi_rl rfl rfl (k w h)
            rw [if_neg e26] at hk
            by_cases e28 : (m11.1.1 1 0 i1) = 5
            · rw [if_pos e28] at hk
              refine zi_si rfl c13 (off := 110) (by rw [e28]; rfl) (tgt := 222) (by decide) ?_
              refine zi_l rfl rfl rfl ?_
              refine zi_l rfl rfl rfl ?_
              refine zi_a rfl rfl rfl ?_
              refine zi_ifd rfl rfl rfl (tgt := 233) (by decide) (fun c29 => ?_) (fun c29 => ?_)
              · rw [if_pos c29] at hk
                refine zi_a (st' := .long 0 :: _) rfl rfl rfl ?_
                cases hk
                exact zi_rl rfl rfl (k w h)
              · rw [if_neg c29] at hk
                refine zi_a (st' := .long 1 :: _) rfl rfl rfl ?_
                refine zi_go rfl rfl rfl (tgt := 234) (by decide) ?_
                cases hk
                exact zi_rl rfl rfl (k w h)
            rw [if_neg e28] at hk
            cases hk
      rw [if_neg c3] at hk
      by_cases e30 : (σ.1.1 1 0 i1) = 30
      · rw [if_pos e30] at hk
        refine zi_si rfl c3 (off := 31) (by rw [e30]; rfl) (tgt := 48) (by decide) ?_
        refine zi_l rfl rfl rfl ?_
        by_cases q31 : i1 < σ.2.1
        case neg => rw [if_neg q31] at hk; cases hk
        rw [if_pos q31] at hk
        refine zc_gP (v := .long (σ.1.2.1 1 3 i1)) h rfl rfl rfl q31 rfl ?_
        cases hk
        exact zi_rl rfl rfl (k w h)
      rw [if_neg e30] at hk
      by_cases e32 : (σ.1.1 1 0 i1) = 31
      · rw [if_pos e32] at hk
        refine zi_si rfl c3 (off := 36) (by rw [e32]; rfl) (tgt := 53) (by decide) ?_
        refine zi_l rfl rfl rfl ?_
        refine zc_gf (c := 4) (k := 0) (o := 3) (n := 10) (t := 4) h rfl rfl rfl (by decide) (by decide) ?_
        refine zc_gf (c := 5) (k := 0) (o := 4) (n := 5) (t := 5) h rfl rfl rfl (by decide) (by decide) ?_
        refine zi_l rfl rfl rfl ?_
        by_cases q33 : i1 < σ.2.1
        case neg => rw [if_neg q33] at hk; cases hk
        rw [if_pos q33] at hk
        refine zc_gP (v := .int (σ.1.1 1 2 i1)) h rfl rfl rfl q33 rfl ?_
        refine zi_s rfl rfl rfl rfl rfl (cT_get (c := 11) (o := 5) h (by decide) rfl ?_)
        cases hk
        exact zi_rl rfl rfl (k w h)
      rw [if_neg e32] at hk
      by_cases e34 : (σ.1.1 1 0 i1) = 32
      · rw [if_pos e34] at hk
        refine zi_si rfl c3 (off := 51) (by rw [e34]; rfl) (tgt := 68) (by decide) ?_
        refine zi_l rfl rfl rfl ?_
        refine zc_gf (c := 4) (k := 0) (o := 3) (n := 10) (t := 4) h rfl rfl rfl (by decide) (by decide) ?_
        refine zc_gf (c := 5) (k := 1) (o := 4) (n := 5) (t := 6) h rfl rfl rfl (by decide) (by decide) ?_
        refine zi_l rfl rfl rfl ?_
        by_cases q35 : i1 < σ.2.1
        case neg => rw [if_neg q35] at hk; cases hk
        rw [if_pos q35] at hk
        refine zc_gP (v := .int (σ.1.1 1 2 i1)) h rfl rfl rfl q35 rfl ?_
        refine zi_s rfl rfl rfl rfl rfl (cT_get (c := 12) (o := 6) h (by decide) rfl ?_)
        cases hk
        exact zi_rl rfl rfl (k w h)
      rw [if_neg e34] at hk
      by_cases e36 : (σ.1.1 1 0 i1) = 33
      · rw [if_pos e36] at hk
        refine zi_si rfl c3 (off := 66) (by rw [e36]; rfl) (tgt := 83) (by decide) ?_
        refine zi_l rfl rfl rfl ?_
        refine zc_gv (o := 3) (n := 10) (v := .int (σ.1.1 4 6 0)) h rfl rfl rfl (by decide) (by decide) rfl ?_
        refine zi_a rfl rfl rfl ?_
        cases hk
        exact zi_rl rfl rfl (k w h)
      rw [if_neg e36] at hk
      cases hk
    · rw [if_neg c1] at hk
      refine zi_a (st' := .long 0 :: _) rfl rfl rfl ?_
      cases hk
      exact zi_rl rfl rfl (k w h)
def cF_takeEffect_136 (s0 : Nat) (s1 : Int32) (σ : cS) : Option (Unit × cS) :=
  if s0 < σ.2.2.1 then cPut (cu1 σ 3 7 s0 s1) fun m2 => some ((), m2) else none
theorem cT_takeEffect_136 {S : zS} {q : Nat} {w w0 : zW} {Post : Option Value → zW → Prop} {b0 : Nat} {pa sa : Nat → Nat} {σ σ2 : cS} {v : Unit} {s0 : Nat} {s1 : Int32} (hq : 1 ≤ q) (hk : cF_takeEffect_136 s0 s1 σ = some (v, σ2)) (h : cW b0 w0 pa sa σ w) (k : ∀ w2, cW b0 w0 pa sa σ2 w2 → Post none w2) : zOk S (q + 1) 42 136 [] [.int s1, .ref (sa s0)] w Post := by
  unfold cF_takeEffect_136 at hk
  by_cases q1 : s0 < σ.2.2.1
  case neg => rw [if_neg q1] at hk; cases hk
  rw [if_pos q1] at hk
  refine zc_pS1 h rfl rfl rfl q1 rfl ⟨rfl, rfl, Or.inl rfl⟩ (fun w h => ?_)
  generalize cu1 σ 3 7 s0 s1 = m2 at h hk
  rw [cPut_eq] at hk
  refine zi_go rfl rfl rfl (tgt := 175) (by decide) ?_
  cases hk
  exact zi_ret rfl rfl rfl (k w h)
def cF_takeEffect (a1 : Option Nat) (σ : cS) : Option (Unit × cS) :=
  match a1 with | none => (none) | some i1 => (if i1 < σ.2.2.1 then if ((σ.1.1 3 0 i1)).toInt < 11 ∨ 19 < ((σ.1.1 3 0 i1)).toInt then (some ((), σ)) else if (σ.1.1 3 0 i1) = 11 then (if i1 < σ.2.2.1 then if i1 < σ.2.2.1 then cPut (cput σ 13 (σ.1.1 3 2 i1) (σ.1.2.1 3 9 i1)) fun m6 => some ((), m6) else none else none) else if (σ.1.1 3 0 i1) = 12 then (if i1 < σ.2.2.1 then if i1 < σ.2.2.1 then cPut (cput σ 12 (σ.1.1 3 2 i1) (σ.1.2.1 3 9 i1)) fun m10 => some ((), m10) else none else none) else if (σ.1.1 3 0 i1) = 13 then (some ((), σ)) else if (σ.1.1 3 0 i1) = 14 then (some ((), σ)) else if (σ.1.1 3 0 i1) = 15 then (some ((), σ)) else if (σ.1.1 3 0 i1) = 16 then (if i1 < σ.2.2.1 then if (lg_cmp (σ.1.2.1 3 9 i1) (0 : Int64)) = 0 then (cF_takeEffect_136  i1 (2 : Int32) σ) else (cF_takeEffect_136  i1 (1 : Int32) σ) else none) else if (σ.1.1 3 0 i1) = 17 then (some ((), σ)) else if (σ.1.1 3 0 i1) = 18 then (if i1 < σ.2.2.1 then if ¬ (lg_cmp (σ.1.2.1 3 9 i1) (0 : Int64)) = 0 then (some ((), σ)) else (if i1 < σ.2.2.1 then match cF_addAlarm (σ.1.1 4 6 0) (σ.1.1 3 1 i1) (3 : Int32) σ with | none => none | some (v23, m24) => if i1 < m24.2.2.1 then cPut (cu1 m24 3 7 i1 (2 : Int32)) fun m26 => some ((), m26) else none else none) else none) else if (σ.1.1 3 0 i1) = 19 then (if i1 < σ.2.2.1 then if i1 < σ.2.2.1 then cPut (cu2 σ 3 11 i1 (cget σ 13 (σ.1.1 3 2 i1))) fun m30 => some ((), m30) else none else none) else none else none)
theorem cT_takeEffect {S : zS} {q : Nat} {w w0 : zW} {Post : Option Value → zW → Prop} {b0 : Nat} {pa sa : Nat → Nat} {σ σ2 : cS} {v : Unit} {a1 : Option Nat} (hq : 1 ≤ q) (hk : cF_takeEffect a1 σ = some (v, σ2)) (h : cW b0 w0 pa sa σ w) (k : ∀ w2, cW b0 w0 pa sa σ2 w2 → Post none w2) : zOk S (q + 1) 42 0 (lv_args 0 [.ref (b0 + 3), cr sa a1]) [] w Post := by
  unfold cF_takeEffect at hk
  cases a1 with
  | none =>
    dsimp only at hk
    refine zi_l rfl rfl rfl ?_
    cases hk
  | some i1 =>
    dsimp only at hk
    refine zi_l rfl rfl rfl ?_
    by_cases q1 : i1 < σ.2.2.1
    case neg => rw [if_neg q1] at hk; cases hk
    rw [if_pos q1] at hk
    refine zc_gS (v := .int (σ.1.1 3 0 i1)) h rfl rfl rfl q1 rfl ?_
    by_cases c2 : ((σ.1.1 3 0 i1)).toInt < 11 ∨ 19 < ((σ.1.1 3 0 i1)).toInt
    · rw [if_pos c2] at hk
      refine zi_sd rfl c2 (tgt := 175) (by decide) ?_
      cases hk
      exact zi_ret rfl rfl rfl (k w h)
    rw [if_neg c2] at hk
    by_cases e3 : (σ.1.1 3 0 i1) = 11
    · rw [if_pos e3] at hk
      refine zi_si rfl c2 (off := 52) (by rw [e3]; rfl) (tgt := 56) (by decide) ?_
      refine zi_l rfl rfl rfl ?_
      refine zc_gf (c := 4) (k := 0) (o := 3) (n := 10) (t := 4) h rfl rfl rfl (by decide) (by decide) ?_
      refine zc_gf (c := 5) (k := 2) (o := 4) (n := 5) (t := 7) h rfl rfl rfl (by decide) (by decide) ?_
      refine zi_l rfl rfl rfl ?_
      by_cases q4 : i1 < σ.2.2.1
      case neg => rw [if_neg q4] at hk; cases hk
      rw [if_pos q4] at hk
      refine zc_gS (v := .int (σ.1.1 3 2 i1)) h rfl rfl rfl q4 rfl ?_
      refine zi_l rfl rfl rfl ?_
      by_cases q5 : i1 < σ.2.2.1
      case neg => rw [if_neg q5] at hk; cases hk
      rw [if_pos q5] at hk
      refine zc_gS (v := .long (σ.1.2.1 3 9 i1)) h rfl rfl rfl q5 rfl ?_
      refine zi_s rfl rfl rfl rfl rfl (cT_put (c := 13) (o := 7) h (by decide) rfl (fun w h => ?_))
      generalize cput σ 13 (σ.1.1 3 2 i1) (σ.1.2.1 3 9 i1) = m6 at h hk
      rw [cPut_eq] at hk
      refine zi_a rfl rfl rfl ?_
      refine zi_go rfl rfl rfl (tgt := 175) (by decide) ?_
      cases hk
      exact zi_ret rfl rfl rfl (k w h)
    rw [if_neg e3] at hk
    by_cases e7 : (σ.1.1 3 0 i1) = 12
    · rw [if_pos e7] at hk
      refine zi_si rfl c2 (off := 74) (by rw [e7]; rfl) (tgt := 78) (by decide) ?_
      refine zi_l rfl rfl rfl ?_
      refine zc_gf (c := 4) (k := 0) (o := 3) (n := 10) (t := 4) h rfl rfl rfl (by decide) (by decide) ?_
      refine zc_gf (c := 5) (k := 1) (o := 4) (n := 5) (t := 6) h rfl rfl rfl (by decide) (by decide) ?_
      refine zi_l rfl rfl rfl ?_
      by_cases q8 : i1 < σ.2.2.1
      case neg => rw [if_neg q8] at hk; cases hk
      rw [if_pos q8] at hk
      refine zc_gS (v := .int (σ.1.1 3 2 i1)) h rfl rfl rfl q8 rfl ?_
      refine zi_l rfl rfl rfl ?_
      by_cases q9 : i1 < σ.2.2.1
      case neg => rw [if_neg q9] at hk; cases hk
      rw [if_pos q9] at hk
      refine zc_gS (v := .long (σ.1.2.1 3 9 i1)) h rfl rfl rfl q9 rfl ?_
      refine zi_s rfl rfl rfl rfl rfl (cT_put (c := 12) (o := 6) h (by decide) rfl (fun w h => ?_))
      generalize cput σ 12 (σ.1.1 3 2 i1) (σ.1.2.1 3 9 i1) = m10 at h hk
      rw [cPut_eq] at hk
      refine zi_a rfl rfl rfl ?_
      refine zi_go rfl rfl rfl (tgt := 175) (by decide) ?_
      cases hk
      exact zi_ret rfl rfl rfl (k w h)
    rw [if_neg e7] at hk
    by_cases e11 : (σ.1.1 3 0 i1) = 13
    · rw [if_pos e11] at hk
      refine zi_si rfl c2 (off := 171) (by rw [e11]; rfl) (tgt := 175) (by decide) ?_
      cases hk
      exact zi_ret rfl rfl rfl (k w h)
    rw [if_neg e11] at hk
    by_cases e12 : (σ.1.1 3 0 i1) = 14
    · rw [if_pos e12] at hk
      refine zi_si rfl c2 (off := 171) (by rw [e12]; rfl) (tgt := 175) (by decide) ?_
      cases hk
      exact zi_ret rfl rfl rfl (k w h)
    rw [if_neg e12] at hk
    by_cases e13 : (σ.1.1 3 0 i1) = 15
    · rw [if_pos e13] at hk
      refine zi_si rfl c2 (off := 171) (by rw [e13]; rfl) (tgt := 175) (by decide) ?_
      cases hk
      exact zi_ret rfl rfl rfl (k w h)
    rw [if_neg e13] at hk
    by_cases e14 : (σ.1.1 3 0 i1) = 16
    · rw [if_pos e14] at hk
      refine zi_si rfl c2 (off := 117) (by rw [e14]; rfl) (tgt := 121) (by decide) ?_
      refine zi_l rfl rfl rfl ?_
      refine zi_l rfl rfl rfl ?_
      by_cases q15 : i1 < σ.2.2.1
      case neg => rw [if_neg q15] at hk; cases hk
      rw [if_pos q15] at hk
      refine zc_gS (v := .long (σ.1.2.1 3 9 i1)) h rfl rfl rfl q15 rfl ?_
      refine zi_a (st' := .long 0 :: _) rfl rfl rfl ?_
      refine zi_a rfl rfl rfl ?_
      refine zi_ifd rfl rfl rfl (tgt := 135) (by decide) (fun c16 => ?_) (fun c16 => ?_)
      · rw [if_pos c16] at hk
        refine zi_a (st' := .int 2 :: _) rfl rfl rfl ?_
        refine zk_sub [] rfl rfl ?_
        exact cT_takeEffect_136 hq hk h k
      · rw [if_neg c16] at hk
        refine zi_a (st' := .int 1 :: _) rfl rfl rfl ?_
        refine zi_go rfl rfl rfl (tgt := 136) (by decide) ?_
        refine zk_sub [] rfl rfl ?_
        exact cT_takeEffect_136 hq hk h k
    rw [if_neg e14] at hk
    by_cases e17 : (σ.1.1 3 0 i1) = 17
    · rw [if_pos e17] at hk
      refine zi_si rfl c2 (off := 171) (by rw [e17]; rfl) (tgt := 175) (by decide) ?_
      cases hk
      exact zi_ret rfl rfl rfl (k w h)
    rw [if_neg e17] at hk
    by_cases e18 : (σ.1.1 3 0 i1) = 18
    · rw [if_pos e18] at hk
      refine zi_si rfl c2 (off := 138) (by rw [e18]; rfl) (tgt := 142) (by decide) ?_
      refine zi_l rfl rfl rfl ?_
      by_cases q19 : i1 < σ.2.2.1
      case neg => rw [if_neg q19] at hk; cases hk
      rw [if_pos q19] at hk
      refine zc_gS (v := .long (σ.1.2.1 3 9 i1)) h rfl rfl rfl q19 rfl ?_
      refine zi_a (st' := .long 0 :: _) rfl rfl rfl ?_
      refine zi_a rfl rfl rfl ?_
      refine zi_ifd rfl rfl rfl (tgt := 175) (by decide) (fun c20 => ?_) (fun c20 => ?_)
      · rw [if_pos c20] at hk
        cases hk
        exact zi_ret rfl rfl rfl (k w h)
      · rw [if_neg c20] at hk
        refine zi_l rfl rfl rfl ?_
        refine zc_gf (c := 4) (k := 1) (o := 3) (n := 10) (t := 10) h rfl rfl rfl (by decide) (by decide) ?_
        refine zi_l rfl rfl rfl ?_
        refine zc_gv (o := 3) (n := 10) (v := .int (σ.1.1 4 6 0)) h rfl rfl rfl (by decide) (by decide) rfl ?_
        refine zi_l rfl rfl rfl ?_
        by_cases q21 : i1 < σ.2.2.1
        case neg => rw [if_neg q21] at hk; cases hk
        rw [if_pos q21] at hk
        refine zc_gS (v := .int (σ.1.1 3 1 i1)) h rfl rfl rfl q21 rfl ?_
        refine zi_a (st' := .int 3 :: _) rfl rfl rfl ?_
        cases c22 : cF_addAlarm (σ.1.1 4 6 0) (σ.1.1 3 1 i1) (3 : Int32) σ with
        | none => rw [c22] at hk; cases hk
        | some q1 =>
          obtain ⟨v23, m24⟩ := q1
          rw [c22] at hk
          dsimp only at hk
          refine zi_v rfl rfl rfl (h.sh (o := 10) (c := 0) (n := 6) (by decide)) rfl rfl rfl (zOk.deep (cT_addAlarm (q := 0) (by omega) c22 h (fun w h => ?_)) (by omega))
          refine zi_l rfl rfl rfl ?_
          refine zi_a (st' := .int 2 :: _) rfl rfl rfl ?_
          by_cases q25 : i1 < m24.2.2.1
          case neg => rw [if_neg q25] at hk; cases hk
          rw [if_pos q25] at hk
          refine zc_pS1 h rfl rfl rfl q25 rfl ⟨rfl, rfl, Or.inl rfl⟩ (fun w h => ?_)
          generalize cu1 m24 3 7 i1 (2 : Int32) = m26 at h hk
          rw [cPut_eq] at hk
          refine zi_go rfl rfl rfl (tgt := 175) (by decide) ?_
          cases hk
          exact zi_ret rfl rfl rfl (k w h)
    rw [if_neg e18] at hk
    by_cases e27 : (σ.1.1 3 0 i1) = 19
    · rw [if_pos e27] at hk
      refine zi_si rfl c2 (off := 96) (by rw [e27]; rfl) (tgt := 100) (by decide) ?_
      refine zi_l rfl rfl rfl ?_
      refine zi_l rfl rfl rfl ?_
      refine zc_gf (c := 4) (k := 0) (o := 3) (n := 10) (t := 4) h rfl rfl rfl (by decide) (by decide) ?_
      refine zc_gf (c := 5) (k := 2) (o := 4) (n := 5) (t := 7) h rfl rfl rfl (by decide) (by decide) ?_
      refine zi_l rfl rfl rfl ?_
      by_cases q28 : i1 < σ.2.2.1
      case neg => rw [if_neg q28] at hk; cases hk
      rw [if_pos q28] at hk
      refine zc_gS (v := .int (σ.1.1 3 2 i1)) h rfl rfl rfl q28 rfl ?_
      refine zi_s rfl rfl rfl rfl rfl (cT_get (c := 13) (o := 7) h (by decide) rfl ?_)
      by_cases q29 : i1 < σ.2.2.1
      case neg => rw [if_neg q29] at hk; cases hk
      rw [if_pos q29] at hk
      refine zc_pS2 h rfl rfl rfl q29 rfl ⟨rfl, rfl, Or.inl rfl⟩ (fun w h => ?_)
      generalize cu2 σ 3 11 i1 (cget σ 13 (σ.1.1 3 2 i1)) = m30 at h hk
      rw [cPut_eq] at hk
      refine zi_go rfl rfl rfl (tgt := 175) (by decide) ?_
      cases hk
      exact zi_ret rfl rfl rfl (k w h)
    rw [if_neg e27] at hk
    cases hk
def cF_moveRamp_29 (l1 : Nat) (σ : cS) : Option (Int32 × cS) :=
  if l1 < σ.2.2.1 then if l1 < σ.2.2.1 then cPut (cput σ 13 (σ.1.1 3 2 l1) (σ.1.2.1 3 9 l1)) fun m3 => some ((1 : Int32), m3) else none else none
theorem cT_moveRamp_29 {S : zS} {q : Nat} {w w0 : zW} {Post : Option Value → zW → Prop} {b0 : Nat} {pa sa : Nat → Nat} {σ σ2 : cS} {v : Int32} {l1 : Nat} (hq : 1 ≤ q) (hk : cF_moveRamp_29 l1 σ = some (v, σ2)) (h : cW b0 w0 pa sa σ w) (k : ∀ w2, cW b0 w0 pa sa σ2 w2 → Post (some (.int v)) w2) : zOk S (q + 1) 44 29 [(0, .ref (b0 + 3)), (1, .ref (sa l1))] [] w Post := by
  unfold cF_moveRamp_29 at hk
  refine zi_l rfl rfl rfl ?_
  refine zc_gf (c := 4) (k := 0) (o := 3) (n := 10) (t := 4) h rfl rfl rfl (by decide) (by decide) ?_
  refine zc_gf (c := 5) (k := 2) (o := 4) (n := 5) (t := 7) h rfl rfl rfl (by decide) (by decide) ?_
  refine zi_l rfl rfl rfl ?_
  by_cases q1 : l1 < σ.2.2.1
  case neg => rw [if_neg q1] at hk; cases hk
  rw [if_pos q1] at hk
  refine zc_gS (v := .int (σ.1.1 3 2 l1)) h rfl rfl rfl q1 rfl ?_
  refine zi_l rfl rfl rfl ?_
  by_cases q2 : l1 < σ.2.2.1
  case neg => rw [if_neg q2] at hk; cases hk
  rw [if_pos q2] at hk
  refine zc_gS (v := .long (σ.1.2.1 3 9 l1)) h rfl rfl rfl q2 rfl ?_
  refine zi_s rfl rfl rfl rfl rfl (cT_put (c := 13) (o := 7) h (by decide) rfl (fun w h => ?_))
  generalize cput σ 13 (σ.1.1 3 2 l1) (σ.1.2.1 3 9 l1) = m3 at h hk
  rw [cPut_eq] at hk
  refine zi_a rfl rfl rfl ?_
  refine zi_a (st' := .int 1 :: _) rfl rfl rfl ?_
  cases hk
  exact zi_rz rfl rfl (Or.inr rfl) (k w h)
def cF_moveRamp (a1 : Option Nat) (σ : cS) : Option (Int32 × cS) :=
  match a1 with | none => (none) | some i1 => (if i1 < σ.2.2.1 then if i1 < σ.2.2.1 then if (lg_cmp (σ.1.2.1 3 10 i1) (1 : Int64)) < 0 then (cF_moveRamp_29  i1 σ) else (if i1 < σ.2.2.1 then if (lg_cmp (((σ.1.1 4 6 0) - (σ.1.1 3 8 i1))).toInt64 (σ.1.2.1 3 10 i1)) < 0 then (if i1 < σ.2.2.1 then if i1 < σ.2.2.1 then if i1 < σ.2.2.1 then if ¬ (σ.1.2.1 3 10 i1) = 0 then if i1 < σ.2.2.1 then if i1 < σ.2.2.1 then cPut (cput σ 13 (σ.1.1 3 2 i1) ((σ.1.2.1 3 11 i1) + (fdv (((σ.1.2.1 3 9 i1) - (σ.1.2.1 3 11 i1)) * (((σ.1.1 4 6 0) - (σ.1.1 3 8 i1))).toInt64) (σ.1.2.1 3 10 i1)))) fun m12 => some ((0 : Int32), m12) else none else none else none else none else none else none) else (cF_moveRamp_29  i1 σ) else none) else none else none)
theorem cT_moveRamp {S : zS} {q : Nat} {w w0 : zW} {Post : Option Value → zW → Prop} {b0 : Nat} {pa sa : Nat → Nat} {σ σ2 : cS} {v : Int32} {a1 : Option Nat} (hq : 1 ≤ q) (hk : cF_moveRamp a1 σ = some (v, σ2)) (h : cW b0 w0 pa sa σ w) (k : ∀ w2, cW b0 w0 pa sa σ2 w2 → Post (some (.int v)) w2) : zOk S (q + 1) 44 0 (lv_args 0 [.ref (b0 + 3), cr sa a1]) [] w Post := by
  unfold cF_moveRamp at hk
  cases a1 with
  | none =>
    dsimp only at hk
    refine zi_l rfl rfl rfl ?_
    refine zc_gv (o := 3) (n := 10) (v := .int (σ.1.1 4 6 0)) h rfl rfl rfl (by decide) (by decide) rfl ?_
    refine zi_l rfl rfl rfl ?_
    cases hk
  | some i1 =>
    dsimp only at hk
    refine zi_l rfl rfl rfl ?_
    refine zc_gv (o := 3) (n := 10) (v := .int (σ.1.1 4 6 0)) h rfl rfl rfl (by decide) (by decide) rfl ?_
    refine zi_l rfl rfl rfl ?_
    by_cases q1 : i1 < σ.2.2.1
    case neg => rw [if_neg q1] at hk; cases hk
    rw [if_pos q1] at hk
    refine zc_gS (v := .int (σ.1.1 3 8 i1)) h rfl rfl rfl q1 rfl ?_
    refine zi_a rfl rfl rfl ?_
    refine zi_a rfl rfl rfl ?_
    refine zi_l rfl rfl rfl ?_
    refine zi_l rfl rfl rfl ?_
    by_cases q2 : i1 < σ.2.2.1
    case neg => rw [if_neg q2] at hk; cases hk
    rw [if_pos q2] at hk
    refine zc_gS (v := .long (σ.1.2.1 3 10 i1)) h rfl rfl rfl q2 rfl ?_
    refine zi_a (st' := .long 1 :: _) rfl rfl rfl ?_
    refine zi_a rfl rfl rfl ?_
    refine zi_ifd rfl rfl rfl (tgt := 29) (by decide) (fun c3 => ?_) (fun c3 => ?_)
    · rw [if_pos c3] at hk
      refine zk_sub [0, 1] rfl rfl ?_
      exact cT_moveRamp_29 hq hk h k
    · rw [if_neg c3] at hk
      refine zi_l rfl rfl rfl ?_
      refine zi_l rfl rfl rfl ?_
      by_cases q4 : i1 < σ.2.2.1
      case neg => rw [if_neg q4] at hk; cases hk
      rw [if_pos q4] at hk
      refine zc_gS (v := .long (σ.1.2.1 3 10 i1)) h rfl rfl rfl q4 rfl ?_
      refine zi_a rfl rfl rfl ?_
      refine zi_ifd rfl rfl rfl (tgt := 50) (by decide) (fun c5 => ?_) (fun c5 => ?_)
      · rw [if_pos c5] at hk
        refine zi_l rfl rfl rfl ?_
        by_cases q6 : i1 < σ.2.2.1
        case neg => rw [if_neg q6] at hk; cases hk
        rw [if_pos q6] at hk
        refine zc_gS (v := .long (σ.1.2.1 3 9 i1)) h rfl rfl rfl q6 rfl ?_
        refine zi_l rfl rfl rfl ?_
        by_cases q7 : i1 < σ.2.2.1
        case neg => rw [if_neg q7] at hk; cases hk
        rw [if_pos q7] at hk
        refine zc_gS (v := .long (σ.1.2.1 3 11 i1)) h rfl rfl rfl q7 rfl ?_
        refine zi_a rfl rfl rfl ?_
        refine zi_l rfl rfl rfl ?_
        refine zi_a rfl rfl rfl ?_
        refine zi_l rfl rfl rfl ?_
        by_cases q8 : i1 < σ.2.2.1
        case neg => rw [if_neg q8] at hk; cases hk
        rw [if_pos q8] at hk
        refine zc_gS (v := .long (σ.1.2.1 3 10 i1)) h rfl rfl rfl q8 rfl ?_
        by_cases q9 : ¬ (σ.1.2.1 3 10 i1) = 0
        case neg => rw [if_neg q9] at hk; cases hk
        rw [if_pos q9] at hk
        refine zi_s rfl rfl rfl rfl rfl (c_floorDiv q9 ?_)
        refine zi_l rfl rfl rfl ?_
        refine zi_l rfl rfl rfl ?_
        refine zc_gf (c := 4) (k := 0) (o := 3) (n := 10) (t := 4) h rfl rfl rfl (by decide) (by decide) ?_
        refine zc_gf (c := 5) (k := 2) (o := 4) (n := 5) (t := 7) h rfl rfl rfl (by decide) (by decide) ?_
        refine zi_l rfl rfl rfl ?_
        by_cases q10 : i1 < σ.2.2.1
        case neg => rw [if_neg q10] at hk; cases hk
        rw [if_pos q10] at hk
        refine zc_gS (v := .int (σ.1.1 3 2 i1)) h rfl rfl rfl q10 rfl ?_
        refine zi_l rfl rfl rfl ?_
        by_cases q11 : i1 < σ.2.2.1
        case neg => rw [if_neg q11] at hk; cases hk
        rw [if_pos q11] at hk
        refine zc_gS (v := .long (σ.1.2.1 3 11 i1)) h rfl rfl rfl q11 rfl ?_
        refine zi_l rfl rfl rfl ?_
        refine zi_a rfl rfl rfl ?_
        refine zi_s rfl rfl rfl rfl rfl (cT_put (c := 13) (o := 7) h (by decide) rfl (fun w h => ?_))
        generalize cput σ 13 (σ.1.1 3 2 i1) ((σ.1.2.1 3 11 i1) + (fdv (((σ.1.2.1 3 9 i1) - (σ.1.2.1 3 11 i1)) * (((σ.1.1 4 6 0) - (σ.1.1 3 8 i1))).toInt64) (σ.1.2.1 3 10 i1))) = m12 at h hk
        rw [cPut_eq] at hk
        refine zi_a rfl rfl rfl ?_
        refine zi_a (st' := .int 0 :: _) rfl rfl rfl ?_
        cases hk
        exact zi_rz rfl rfl (Or.inl rfl) (k w h)
      · rw [if_neg c5] at hk
        refine zk_sub [0, 1] rfl rfl ?_
        exact cT_moveRamp_29 hq hk h k
def cF_begin_57 (g_reckon : Option Nat → cS → Option (Int64 × cS)) (σ : cS) : Option (Int32 × cS) :=
  none
theorem cT_begin_57 {S : zS} {q : Nat} {w w0 : zW} {Post : Option Value → zW → Prop} {b0 : Nat} {pa sa : Nat → Nat} {σ σ2 : cS} {v : Int32} {g_reckon : Option Nat → cS → Option (Int64 × cS)} (hq : 2 ≤ q) (H_reckon : ∀ {x1 : Option Nat} {ν ν2 : cS} {y : Int64} {w : zW} {P : Option Value → zW → Prop}, g_reckon x1 ν = some (y, ν2) → cW b0 w0 pa sa ν w → (∀ w2, cW b0 w0 pa sa ν2 w2 → P (some (.long y)) w2) → zOk S q 33 0 (lv_args 0 [.ref (b0 + 3), cr pa x1]) [] w P) (hk : cF_begin_57 g_reckon σ = some (v, σ2)) (h : cW b0 w0 pa sa σ w) (k : ∀ w2, cW b0 w0 pa sa σ2 w2 → Post (some (.int v)) w2) : zOk S (q + 1) 39 57 [(0, .ref (b0 + 3)), (1, .null)] [] w Post := by
  unfold cF_begin_57 at hk
  refine zi_l rfl rfl rfl ?_
  refine zi_l rfl rfl rfl ?_
  cases hk
def cF_begin_40 (g_reckon : Option Nat → cS → Option (Int64 × cS)) (σ : cS) : Option (Int32 × cS) :=
  if ¬ (σ.1.1 4 9 0) = 0 then (cF_begin_57 g_reckon  σ) else (cPut (cu1 σ 4 7 0 ((σ.1.1 4 7 0) + (1 : Int32))) fun m2 => cF_begin_57 g_reckon  m2)
theorem cT_begin_40 {S : zS} {q : Nat} {w w0 : zW} {Post : Option Value → zW → Prop} {b0 : Nat} {pa sa : Nat → Nat} {σ σ2 : cS} {v : Int32} {g_reckon : Option Nat → cS → Option (Int64 × cS)} (hq : 2 ≤ q) (H_reckon : ∀ {x1 : Option Nat} {ν ν2 : cS} {y : Int64} {w : zW} {P : Option Value → zW → Prop}, g_reckon x1 ν = some (y, ν2) → cW b0 w0 pa sa ν w → (∀ w2, cW b0 w0 pa sa ν2 w2 → P (some (.long y)) w2) → zOk S q 33 0 (lv_args 0 [.ref (b0 + 3), cr pa x1]) [] w P) (hk : cF_begin_40 g_reckon σ = some (v, σ2)) (h : cW b0 w0 pa sa σ w) (k : ∀ w2, cW b0 w0 pa sa σ2 w2 → Post (some (.int v)) w2) : zOk S (q + 1) 39 40 [(0, .ref (b0 + 3)), (1, .null)] [] w Post := by
  unfold cF_begin_40 at hk
  refine zi_l rfl rfl rfl ?_
  refine zc_gv (o := 3) (n := 10) (v := .int (σ.1.1 4 9 0)) h rfl rfl rfl (by decide) (by decide) rfl ?_
  refine zi_ifd rfl rfl rfl (tgt := 57) (by decide) (fun c1 => ?_) (fun c1 => ?_)
  · rw [if_pos c1] at hk
    exact cT_begin_57 hq H_reckon hk h k
  · rw [if_neg c1] at hk
    refine zi_l rfl rfl rfl ?_
    refine zi_a rfl rfl rfl ?_
    refine zc_gv (o := 3) (n := 10) (v := .int (σ.1.1 4 7 0)) h rfl rfl rfl (by decide) (by decide) rfl ?_
    refine zi_a (st' := .int 1 :: _) rfl rfl rfl ?_
    refine zi_a rfl rfl rfl ?_
    refine zc_pv (o := 3) (n := 10) h rfl rfl rfl (by decide) (by decide) rfl ⟨rfl, rfl, Or.inl rfl⟩ (fun w h => ?_)
    generalize cu1 σ 4 7 0 ((σ.1.1 4 7 0) + (1 : Int32)) = m2 at h hk
    rw [cPut_eq] at hk
    exact cT_begin_57 hq H_reckon hk h k
def cF_begin_57a (g_reckon : Option Nat → cS → Option (Int64 × cS)) (l1 : Nat) (σ : cS) : Option (Int32 × cS) :=
  if l1 < σ.2.2.1 then match g_reckon (σ.1.2.2 3 3 l1) σ with | none => none | some (v3, m4) => if l1 < m4.2.2.1 then match g_reckon (m4.1.2.2 3 4 l1) m4 with | none => none | some (v7, m8) => if (m8.1.1 4 8 0) = 0 then (if l1 < m8.2.2.1 then match cF_open l1 (m8.1.1 4 6 0) v3 v7 m8 with | none => none | some (v12, m13) => match cF_takeEffect (some l1) m13 with | none => none | some (v15, m16) => some ((1 : Int32), m16) else none) else (some ((0 : Int32), m8)) else none else none
theorem cT_begin_57a {S : zS} {q : Nat} {w w0 : zW} {Post : Option Value → zW → Prop} {b0 : Nat} {pa sa : Nat → Nat} {σ σ2 : cS} {v : Int32} {g_reckon : Option Nat → cS → Option (Int64 × cS)} {l1 : Nat} (hq : 2 ≤ q) (H_reckon : ∀ {x1 : Option Nat} {ν ν2 : cS} {y : Int64} {w : zW} {P : Option Value → zW → Prop}, g_reckon x1 ν = some (y, ν2) → cW b0 w0 pa sa ν w → (∀ w2, cW b0 w0 pa sa ν2 w2 → P (some (.long y)) w2) → zOk S q 33 0 (lv_args 0 [.ref (b0 + 3), cr pa x1]) [] w P) (hk : cF_begin_57a g_reckon l1 σ = some (v, σ2)) (h : cW b0 w0 pa sa σ w) (k : ∀ w2, cW b0 w0 pa sa σ2 w2 → Post (some (.int v)) w2) : zOk S (q + 1) 39 57 [(0, .ref (b0 + 3)), (1, .ref (sa l1))] [] w Post := by
  unfold cF_begin_57a at hk
  refine zi_l rfl rfl rfl ?_
  refine zi_l rfl rfl rfl ?_
  by_cases q1 : l1 < σ.2.2.1
  case neg => rw [if_neg q1] at hk; cases hk
  rw [if_pos q1] at hk
  refine zc_gS (v := cr pa (σ.1.2.2 3 3 l1)) h rfl rfl rfl q1 rfl ?_
  cases c2 : g_reckon (σ.1.2.2 3 3 l1) σ with
  | none => rw [c2] at hk; cases hk
  | some q1 =>
    obtain ⟨v3, m4⟩ := q1
    rw [c2] at hk
    dsimp only at hk
    refine zi_v rfl rfl rfl (h.sh (o := 3) (c := 4) (n := 10) (by decide)) rfl rfl (by generalize (σ.1.2.2 3 3 l1) = o0; cases o0 <;> rfl) (zOk.deep (H_reckon c2 h (fun w h => ?_)) (by omega))
    refine zi_l rfl rfl rfl ?_
    refine zi_l rfl rfl rfl ?_
    refine zi_l rfl rfl rfl ?_
    by_cases q5 : l1 < m4.2.2.1
    case neg => rw [if_neg q5] at hk; cases hk
    rw [if_pos q5] at hk
    refine zc_gS (v := cr pa (m4.1.2.2 3 4 l1)) h rfl rfl rfl q5 rfl ?_
    cases c6 : g_reckon (m4.1.2.2 3 4 l1) m4 with
    | none => rw [c6] at hk; cases hk
    | some q1 =>
      obtain ⟨v7, m8⟩ := q1
      rw [c6] at hk
      dsimp only at hk
      refine zi_v rfl rfl rfl (h.sh (o := 3) (c := 4) (n := 10) (by decide)) rfl rfl (by generalize (m4.1.2.2 3 4 l1) = o0; cases o0 <;> rfl) (zOk.deep (H_reckon c6 h (fun w h => ?_)) (by omega))
      refine zi_l rfl rfl rfl ?_
      refine zi_l rfl rfl rfl ?_
      refine zc_gv (o := 3) (n := 10) (v := .int (m8.1.1 4 8 0)) h rfl rfl rfl (by decide) (by decide) rfl ?_
      refine zi_ifd rfl rfl rfl (tgt := 85) (by decide) (fun c9 => ?_) (fun c9 => ?_)
      · rw [if_pos c9] at hk
        refine zi_l rfl rfl rfl ?_
        refine zi_l rfl rfl rfl ?_
        refine zc_gv (o := 3) (n := 10) (v := .int (m8.1.1 4 6 0)) h rfl rfl rfl (by decide) (by decide) rfl ?_
        refine zi_l rfl rfl rfl ?_
        refine zi_l rfl rfl rfl ?_
        by_cases q10 : l1 < m8.2.2.1
        case neg => rw [if_neg q10] at hk; cases hk
        rw [if_pos q10] at hk
        cases c11 : cF_open l1 (m8.1.1 4 6 0) v3 v7 m8 with
        | none => rw [c11] at hk; cases hk
        | some q1 =>
          obtain ⟨v12, m13⟩ := q1
          rw [c11] at hk
          dsimp only at hk
          refine zi_v rfl rfl rfl (h.shS q10) rfl rfl rfl (zOk.deep (cT_open (q := 1) (by omega) c11 h (fun w h => ?_)) (by omega))
          refine zi_l rfl rfl rfl ?_
          refine zi_l rfl rfl rfl ?_
          cases c14 : cF_takeEffect (some l1) m13 with
          | none => rw [c14] at hk; cases hk
          | some q1 =>
            obtain ⟨v15, m16⟩ := q1
            rw [c14] at hk
            dsimp only at hk
            refine zi_v rfl rfl rfl (h.sh (o := 3) (c := 4) (n := 10) (by decide)) rfl rfl rfl (zOk.deep (cT_takeEffect (q := 1) (by omega) c14 h (fun w h => ?_)) (by omega))
            refine zi_a (st' := .int 1 :: _) rfl rfl rfl ?_
            cases hk
            exact zi_rz rfl rfl (Or.inr rfl) (k w h)
      · rw [if_neg c9] at hk
        refine zi_a (st' := .int 0 :: _) rfl rfl rfl ?_
        cases hk
        exact zi_rz rfl rfl (Or.inl rfl) (k w h)
def cF_begin_40a (g_reckon : Option Nat → cS → Option (Int64 × cS)) (l1 : Nat) (σ : cS) : Option (Int32 × cS) :=
  if ¬ (σ.1.1 4 9 0) = 0 then (cF_begin_57a g_reckon l1 σ) else (cPut (cu1 σ 4 7 0 ((σ.1.1 4 7 0) + (1 : Int32))) fun m2 => cF_begin_57a g_reckon l1 m2)
theorem cT_begin_40a {S : zS} {q : Nat} {w w0 : zW} {Post : Option Value → zW → Prop} {b0 : Nat} {pa sa : Nat → Nat} {σ σ2 : cS} {v : Int32} {g_reckon : Option Nat → cS → Option (Int64 × cS)} {l1 : Nat} (hq : 2 ≤ q) (H_reckon : ∀ {x1 : Option Nat} {ν ν2 : cS} {y : Int64} {w : zW} {P : Option Value → zW → Prop}, g_reckon x1 ν = some (y, ν2) → cW b0 w0 pa sa ν w → (∀ w2, cW b0 w0 pa sa ν2 w2 → P (some (.long y)) w2) → zOk S q 33 0 (lv_args 0 [.ref (b0 + 3), cr pa x1]) [] w P) (hk : cF_begin_40a g_reckon l1 σ = some (v, σ2)) (h : cW b0 w0 pa sa σ w) (k : ∀ w2, cW b0 w0 pa sa σ2 w2 → Post (some (.int v)) w2) : zOk S (q + 1) 39 40 [(0, .ref (b0 + 3)), (1, .ref (sa l1))] [] w Post := by
  unfold cF_begin_40a at hk
  refine zi_l rfl rfl rfl ?_
  refine zc_gv (o := 3) (n := 10) (v := .int (σ.1.1 4 9 0)) h rfl rfl rfl (by decide) (by decide) rfl ?_
  refine zi_ifd rfl rfl rfl (tgt := 57) (by decide) (fun c1 => ?_) (fun c1 => ?_)
  · rw [if_pos c1] at hk
    exact cT_begin_57a hq H_reckon hk h k
  · rw [if_neg c1] at hk
    refine zi_l rfl rfl rfl ?_
    refine zi_a rfl rfl rfl ?_
    refine zc_gv (o := 3) (n := 10) (v := .int (σ.1.1 4 7 0)) h rfl rfl rfl (by decide) (by decide) rfl ?_
    refine zi_a (st' := .int 1 :: _) rfl rfl rfl ?_
    refine zi_a rfl rfl rfl ?_
    refine zc_pv (o := 3) (n := 10) h rfl rfl rfl (by decide) (by decide) rfl ⟨rfl, rfl, Or.inl rfl⟩ (fun w h => ?_)
    generalize cu1 σ 4 7 0 ((σ.1.1 4 7 0) + (1 : Int32)) = m2 at h hk
    rw [cPut_eq] at hk
    exact cT_begin_57a hq H_reckon hk h k
def cF_begin (g_reckon : Option Nat → cS → Option (Int64 × cS)) (a1 : Option Nat) (σ : cS) : Option (Int32 × cS) :=
  match a1 with | none => (if ¬ (σ.1.1 4 9 0) = 0 then (cF_begin_40 g_reckon  σ) else (if (σ.1.1 4 7 0) < (1000 : Int32) then (cF_begin_40 g_reckon  σ) else (none))) | some i1 => (if ¬ (σ.1.1 4 9 0) = 0 then (cF_begin_40a g_reckon i1 σ) else (if (σ.1.1 4 7 0) < (1000 : Int32) then (cF_begin_40a g_reckon i1 σ) else (if i1 < σ.2.2.1 then match cF_addAlarm (σ.1.1 4 6 0) (σ.1.1 3 1 i1) (2 : Int32) σ with | none => none | some (v7, m8) => cPut (cu1 m8 4 8 0 (1 : Int32)) fun m9 => some ((0 : Int32), m9) else none)))
theorem cT_begin {S : zS} {q : Nat} {w w0 : zW} {Post : Option Value → zW → Prop} {b0 : Nat} {pa sa : Nat → Nat} {σ σ2 : cS} {v : Int32} {g_reckon : Option Nat → cS → Option (Int64 × cS)} {a1 : Option Nat} (hq : 2 ≤ q) (H_reckon : ∀ {x1 : Option Nat} {ν ν2 : cS} {y : Int64} {w : zW} {P : Option Value → zW → Prop}, g_reckon x1 ν = some (y, ν2) → cW b0 w0 pa sa ν w → (∀ w2, cW b0 w0 pa sa ν2 w2 → P (some (.long y)) w2) → zOk S q 33 0 (lv_args 0 [.ref (b0 + 3), cr pa x1]) [] w P) (hk : cF_begin g_reckon a1 σ = some (v, σ2)) (h : cW b0 w0 pa sa σ w) (k : ∀ w2, cW b0 w0 pa sa σ2 w2 → Post (some (.int v)) w2) : zOk S (q + 1) 39 0 (lv_args 0 [.ref (b0 + 3), cr sa a1]) [] w Post := by
  unfold cF_begin at hk
  cases a1 with
  | none =>
    dsimp only at hk
    refine zi_l rfl rfl rfl ?_
    refine zc_gv (o := 3) (n := 10) (v := .int (σ.1.1 4 9 0)) h rfl rfl rfl (by decide) (by decide) rfl ?_
    refine zi_ifd rfl rfl rfl (tgt := 40) (by decide) (fun c1 => ?_) (fun c1 => ?_)
    · rw [if_pos c1] at hk
      exact cT_begin_40 hq H_reckon hk h k
    · rw [if_neg c1] at hk
      refine zi_l rfl rfl rfl ?_
      refine zc_gv (o := 3) (n := 10) (v := .int (σ.1.1 4 7 0)) h rfl rfl rfl (by decide) (by decide) rfl ?_
      refine zi_a (st' := .int 1000 :: _) rfl rfl rfl ?_
      refine zi_ifd rfl rfl rfl (tgt := 40) (by decide) (fun c2 => ?_) (fun c2 => ?_)
      · rw [if_pos c2] at hk
        exact cT_begin_40 hq H_reckon hk h k
      · rw [if_neg c2] at hk
        refine zi_l rfl rfl rfl ?_
        refine zc_gf (c := 4) (k := 1) (o := 3) (n := 10) (t := 10) h rfl rfl rfl (by decide) (by decide) ?_
        refine zi_l rfl rfl rfl ?_
        refine zc_gv (o := 3) (n := 10) (v := .int (σ.1.1 4 6 0)) h rfl rfl rfl (by decide) (by decide) rfl ?_
        refine zi_l rfl rfl rfl ?_
        cases hk
  | some i1 =>
    dsimp only at hk
    refine zi_l rfl rfl rfl ?_
    refine zc_gv (o := 3) (n := 10) (v := .int (σ.1.1 4 9 0)) h rfl rfl rfl (by decide) (by decide) rfl ?_
    refine zi_ifd rfl rfl rfl (tgt := 40) (by decide) (fun c3 => ?_) (fun c3 => ?_)
    · rw [if_pos c3] at hk
      exact cT_begin_40a hq H_reckon hk h k
    · rw [if_neg c3] at hk
      refine zi_l rfl rfl rfl ?_
      refine zc_gv (o := 3) (n := 10) (v := .int (σ.1.1 4 7 0)) h rfl rfl rfl (by decide) (by decide) rfl ?_
      refine zi_a (st' := .int 1000 :: _) rfl rfl rfl ?_
      refine zi_ifd rfl rfl rfl (tgt := 40) (by decide) (fun c4 => ?_) (fun c4 => ?_)
      · rw [if_pos c4] at hk
        exact cT_begin_40a hq H_reckon hk h k
      · rw [if_neg c4] at hk
        refine zi_l rfl rfl rfl ?_
        refine zc_gf (c := 4) (k := 1) (o := 3) (n := 10) (t := 10) h rfl rfl rfl (by decide) (by decide) ?_
        refine zi_l rfl rfl rfl ?_
        refine zc_gv (o := 3) (n := 10) (v := .int (σ.1.1 4 6 0)) h rfl rfl rfl (by decide) (by decide) rfl ?_
        refine zi_l rfl rfl rfl ?_
        by_cases q5 : i1 < σ.2.2.1
        case neg => rw [if_neg q5] at hk; cases hk
        rw [if_pos q5] at hk
        refine zc_gS (v := .int (σ.1.1 3 1 i1)) h rfl rfl rfl q5 rfl ?_
        refine zi_a (st' := .int 2 :: _) rfl rfl rfl ?_
        cases c6 : cF_addAlarm (σ.1.1 4 6 0) (σ.1.1 3 1 i1) (2 : Int32) σ with
        | none => rw [c6] at hk; cases hk
        | some q1 =>
          obtain ⟨v7, m8⟩ := q1
          rw [c6] at hk
          dsimp only at hk
          refine zi_v rfl rfl rfl (h.sh (o := 10) (c := 0) (n := 6) (by decide)) rfl rfl rfl (zOk.deep (cT_addAlarm (q := 0) (by omega) c6 h (fun w h => ?_)) (by omega))
          refine zi_l rfl rfl rfl ?_
          refine zi_a (st' := .int 1 :: _) rfl rfl rfl ?_
          refine zc_pv (o := 3) (n := 10) h rfl rfl rfl (by decide) (by decide) rfl ⟨rfl, rfl, Or.inl rfl⟩ (fun w h => ?_)
          generalize cu1 m8 4 8 0 (1 : Int32) = m9 at h hk
          rw [cPut_eq] at hk
          refine zi_a (st' := .int 0 :: _) rfl rfl rfl ?_
          cases hk
          exact zi_rz rfl rfl (Or.inl rfl) (k w h)
