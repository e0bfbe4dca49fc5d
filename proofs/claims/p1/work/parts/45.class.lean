/-! the class decompiled: functions over its state, and that its code runs them (by wip/whole/gen5.py) -/
def cF_goOnInOrder (g_goOn : Option Nat → cS → Option (Int32 × cS)) (a1 : Option Nat) (σ : cS) : Option (Int32 × cS) :=
  match a1 with | none => (none) | some i1 => (if i1 < σ.2.2.1 then match g_goOn (σ.1.2.2 3 5 i1) σ with | none => none | some (v3, m4) => if ¬ v3 = 0 then (if i1 < m4.2.2.1 then cPut (cu1 m4 3 7 i1 (2 : Int32)) fun m7 => if i1 < m7.2.2.1 then match g_goOn (m7.1.2.2 3 6 i1) m7 with | none => none | some (v10, m11) => if ¬ v10 = 0 then (if i1 < m11.2.2.1 then if ¬ (m11.1.1 3 0 i1) = (21 : Int32) then (some ((1 : Int32), m11)) else (if i1 < m11.2.2.1 then match cF_addClosed (m11.1.1 3 1 i1) m11 with | none => none | some (v17, m18) => some ((1 : Int32), m18) else none) else none) else (some ((0 : Int32), m11)) else none else none) else (some ((0 : Int32), m4)) else none)
theorem cT_goOnInOrder {S : zS} {q : Nat} {w w0 : zW} {Post : Option Value → zW → Prop} {b0 : Nat} {pa sa : Nat → Nat} {σ σ2 : cS} {v : Int32} {g_goOn : Option Nat → cS → Option (Int32 × cS)} {a1 : Option Nat} (hq : 1 ≤ q) (H_goOn : ∀ {x1 : Option Nat} {ν ν2 : cS} {y : Int32} {w : zW} {P : Option Value → zW → Prop}, g_goOn x1 ν = some (y, ν2) → cW b0 w0 pa sa ν w → (∀ w2, cW b0 w0 pa sa ν2 w2 → P (some (.int y)) w2) → zOk S q 38 0 (lv_args 0 [.ref (b0 + 3), cr sa x1]) [] w P) (hk : cF_goOnInOrder g_goOn a1 σ = some (v, σ2)) (h : cW b0 w0 pa sa σ w) (k : ∀ w2, cW b0 w0 pa sa σ2 w2 → Post (some (.int v)) w2) : zOk S (q + 1) 46 0 (lv_args 0 [.ref (b0 + 3), cr sa a1]) [] w Post := by
  unfold cF_goOnInOrder at hk
  cases a1 with
  | none =>
    dsimp only at hk
    refine zi_l rfl rfl rfl ?_
    refine zi_l rfl rfl rfl ?_
    cases hk
  | some i1 =>
    dsimp only at hk
    refine zi_l rfl rfl rfl ?_
    refine zi_l rfl rfl rfl ?_
    by_cases q1 : i1 < σ.2.2.1
    case neg => rw [if_neg q1] at hk; cases hk
    rw [if_pos q1] at hk
    refine zc_gS (v := cr sa (σ.1.2.2 3 5 i1)) h rfl rfl rfl q1 rfl ?_
    cases c2 : g_goOn (σ.1.2.2 3 5 i1) σ with
    | none => rw [c2] at hk; cases hk
    | some q1 =>
      obtain ⟨v3, m4⟩ := q1
      rw [c2] at hk
      dsimp only at hk
      refine zi_v rfl rfl rfl (h.sh (o := 3) (c := 4) (n := 10) (by decide)) rfl rfl (by generalize (σ.1.2.2 3 5 i1) = o0; cases o0 <;> rfl) (zOk.deep (H_goOn c2 h (fun w h => ?_)) (by omega))
      refine zi_ifd rfl rfl rfl (tgt := 13) (by decide) (fun c5 => ?_) (fun c5 => ?_)
      · rw [if_pos c5] at hk
        refine zi_l rfl rfl rfl ?_
        refine zi_a (st' := .int 2 :: _) rfl rfl rfl ?_
        by_cases q6 : i1 < m4.2.2.1
        case neg => rw [if_neg q6] at hk; cases hk
        rw [if_pos q6] at hk
        refine zc_pS1 h rfl rfl rfl q6 rfl ⟨rfl, rfl, Or.inl rfl⟩ (fun w h => ?_)
        generalize cu1 m4 3 7 i1 (2 : Int32) = m7 at h hk
        rw [cPut_eq] at hk
        refine zi_l rfl rfl rfl ?_
        refine zi_l rfl rfl rfl ?_
        by_cases q8 : i1 < m7.2.2.1
        case neg => rw [if_neg q8] at hk; cases hk
        rw [if_pos q8] at hk
        refine zc_gS (v := cr sa (m7.1.2.2 3 6 i1)) h rfl rfl rfl q8 rfl ?_
        cases c9 : g_goOn (m7.1.2.2 3 6 i1) m7 with
        | none => rw [c9] at hk; cases hk
        | some q1 =>
          obtain ⟨v10, m11⟩ := q1
          rw [c9] at hk
          dsimp only at hk
          refine zi_v rfl rfl rfl (h.sh (o := 3) (c := 4) (n := 10) (by decide)) rfl rfl (by generalize (m7.1.2.2 3 6 i1) = o0; cases o0 <;> rfl) (zOk.deep (H_goOn c9 h (fun w h => ?_)) (by omega))
          refine zi_ifd rfl rfl rfl (tgt := 31) (by decide) (fun c12 => ?_) (fun c12 => ?_)
          · rw [if_pos c12] at hk
            refine zi_l rfl rfl rfl ?_
            by_cases q13 : i1 < m11.2.2.1
            case neg => rw [if_neg q13] at hk; cases hk
            rw [if_pos q13] at hk
            refine zc_gS (v := .int (m11.1.1 3 0 i1)) h rfl rfl rfl q13 rfl ?_
            refine zi_a (st' := .int 21 :: _) rfl rfl rfl ?_
            refine zi_ifd rfl rfl rfl (tgt := 51) (by decide) (fun c14 => ?_) (fun c14 => ?_)
            · rw [if_pos c14] at hk
              refine zi_a (st' := .int 1 :: _) rfl rfl rfl ?_
              cases hk
              exact zi_rz rfl rfl (Or.inr rfl) (k w h)
            · rw [if_neg c14] at hk
              refine zi_l rfl rfl rfl ?_
              refine zc_gf (c := 4) (k := 1) (o := 3) (n := 10) (t := 10) h rfl rfl rfl (by decide) (by decide) ?_
              refine zi_l rfl rfl rfl ?_
              by_cases q15 : i1 < m11.2.2.1
              case neg => rw [if_neg q15] at hk; cases hk
              rw [if_pos q15] at hk
              refine zc_gS (v := .int (m11.1.1 3 1 i1)) h rfl rfl rfl q15 rfl ?_
              cases c16 : cF_addClosed (m11.1.1 3 1 i1) m11 with
              | none => rw [c16] at hk; cases hk
              | some q1 =>
                obtain ⟨v17, m18⟩ := q1
                rw [c16] at hk
                dsimp only at hk
                refine zi_v rfl rfl rfl (h.sh (o := 10) (c := 0) (n := 6) (by decide)) rfl rfl rfl (zOk.deep (cT_addClosed (q := 0) (by omega) c16 h (fun w h => ?_)) (by omega))
                refine zi_a (st' := .int 1 :: _) rfl rfl rfl ?_
                cases hk
                exact zi_rz rfl rfl (Or.inr rfl) (k w h)
          · rw [if_neg c12] at hk
            refine zi_a (st' := .int 0 :: _) rfl rfl rfl ?_
            cases hk
            exact zi_rz rfl rfl (Or.inl rfl) (k w h)
      · rw [if_neg c5] at hk
        refine zi_a (st' := .int 0 :: _) rfl rfl rfl ?_
        cases hk
        exact zi_rz rfl rfl (Or.inl rfl) (k w h)
def cF_goOnSideBySide (g_goOn : Option Nat → cS → Option (Int32 × cS)) (a1 : Option Nat) (σ : cS) : Option (Int32 × cS) :=
  match a1 with | none => (none) | some i1 => (if i1 < σ.2.2.1 then match g_goOn (σ.1.2.2 3 5 i1) σ with | none => none | some (v3, m4) => if i1 < m4.2.2.1 then match g_goOn (m4.1.2.2 3 6 i1) m4 with | none => none | some (v7, m8) => if v3 = 0 then (some ((0 : Int32), m8)) else (if v7 = 0 then (some ((0 : Int32), m8)) else (some ((1 : Int32), m8))) else none else none)
theorem cT_goOnSideBySide {S : zS} {q : Nat} {w w0 : zW} {Post : Option Value → zW → Prop} {b0 : Nat} {pa sa : Nat → Nat} {σ σ2 : cS} {v : Int32} {g_goOn : Option Nat → cS → Option (Int32 × cS)} {a1 : Option Nat} (hq : 0 ≤ q) (H_goOn : ∀ {x1 : Option Nat} {ν ν2 : cS} {y : Int32} {w : zW} {P : Option Value → zW → Prop}, g_goOn x1 ν = some (y, ν2) → cW b0 w0 pa sa ν w → (∀ w2, cW b0 w0 pa sa ν2 w2 → P (some (.int y)) w2) → zOk S q 38 0 (lv_args 0 [.ref (b0 + 3), cr sa x1]) [] w P) (hk : cF_goOnSideBySide g_goOn a1 σ = some (v, σ2)) (h : cW b0 w0 pa sa σ w) (k : ∀ w2, cW b0 w0 pa sa σ2 w2 → Post (some (.int v)) w2) : zOk S (q + 1) 48 0 (lv_args 0 [.ref (b0 + 3), cr sa a1]) [] w Post := by
  unfold cF_goOnSideBySide at hk
  cases a1 with
  | none =>
    dsimp only at hk
    refine zi_l rfl rfl rfl ?_
    refine zi_l rfl rfl rfl ?_
    cases hk
  | some i1 =>
    dsimp only at hk
    refine zi_l rfl rfl rfl ?_
    refine zi_l rfl rfl rfl ?_
    by_cases q1 : i1 < σ.2.2.1
    case neg => rw [if_neg q1] at hk; cases hk
    rw [if_pos q1] at hk
    refine zc_gS (v := cr sa (σ.1.2.2 3 5 i1)) h rfl rfl rfl q1 rfl ?_
    cases c2 : g_goOn (σ.1.2.2 3 5 i1) σ with
    | none => rw [c2] at hk; cases hk
    | some q1 =>
      obtain ⟨v3, m4⟩ := q1
      rw [c2] at hk
      dsimp only at hk
      refine zi_v rfl rfl rfl (h.sh (o := 3) (c := 4) (n := 10) (by decide)) rfl rfl (by generalize (σ.1.2.2 3 5 i1) = o0; cases o0 <;> rfl) (zOk.deep (H_goOn c2 h (fun w h => ?_)) (by omega))
      refine zi_l rfl rfl rfl ?_
      refine zi_l rfl rfl rfl ?_
      refine zi_l rfl rfl rfl ?_
      by_cases q5 : i1 < m4.2.2.1
      case neg => rw [if_neg q5] at hk; cases hk
      rw [if_pos q5] at hk
      refine zc_gS (v := cr sa (m4.1.2.2 3 6 i1)) h rfl rfl rfl q5 rfl ?_
      cases c6 : g_goOn (m4.1.2.2 3 6 i1) m4 with
      | none => rw [c6] at hk; cases hk
      | some q1 =>
        obtain ⟨v7, m8⟩ := q1
        rw [c6] at hk
        dsimp only at hk
        refine zi_v rfl rfl rfl (h.sh (o := 3) (c := 4) (n := 10) (by decide)) rfl rfl (by generalize (m4.1.2.2 3 6 i1) = o0; cases o0 <;> rfl) (zOk.deep (H_goOn c6 h (fun w h => ?_)) (by omega))
        refine zi_l rfl rfl rfl ?_
        refine zi_l rfl rfl rfl ?_
        refine zi_ifd rfl rfl rfl (tgt := 30) (by decide) (fun c9 => ?_) (fun c9 => ?_)
        · rw [if_pos c9] at hk
          refine zi_a (st' := .int 0 :: _) rfl rfl rfl ?_
          cases hk
          exact zi_rz rfl rfl (Or.inl rfl) (k w h)
        · rw [if_neg c9] at hk
          refine zi_l rfl rfl rfl ?_
          refine zi_ifd rfl rfl rfl (tgt := 30) (by decide) (fun c10 => ?_) (fun c10 => ?_)
          · rw [if_pos c10] at hk
            refine zi_a (st' := .int 0 :: _) rfl rfl rfl ?_
            cases hk
            exact zi_rz rfl rfl (Or.inl rfl) (k w h)
          · rw [if_neg c10] at hk
            refine zi_a (st' := .int 1 :: _) rfl rfl rfl ?_
            refine zi_go rfl rfl rfl (tgt := 31) (by decide) ?_
            cases hk
            exact zi_rz rfl rfl (Or.inr rfl) (k w h)
def cF_goOnRepeating_54 (g_goOn : Option Nat → cS → Option (Int32 × cS)) (σ : cS) : Option (Int32 × cS) :=
  none
theorem cT_goOnRepeating_54 {S : zS} {q : Nat} {w w0 : zW} {Post : Option Value → zW → Prop} {b0 : Nat} {pa sa : Nat → Nat} {σ σ2 : cS} {v : Int32} {g_goOn : Option Nat → cS → Option (Int32 × cS)} (hq : 1 ≤ q) (H_goOn : ∀ {x1 : Option Nat} {ν ν2 : cS} {y : Int32} {w : zW} {P : Option Value → zW → Prop}, g_goOn x1 ν = some (y, ν2) → cW b0 w0 pa sa ν w → (∀ w2, cW b0 w0 pa sa ν2 w2 → P (some (.int y)) w2) → zOk S q 38 0 (lv_args 0 [.ref (b0 + 3), cr sa x1]) [] w P) (hk : cF_goOnRepeating_54 g_goOn σ = some (v, σ2)) (h : cW b0 w0 pa sa σ w) (k : ∀ w2, cW b0 w0 pa sa σ2 w2 → Post (some (.int v)) w2) : zOk S (q + 1) 49 54 [(1, .null)] [] w Post := by
  unfold cF_goOnRepeating_54 at hk
  refine zi_l rfl rfl rfl ?_
  cases hk
def cF_goOnRepeating_2b (g_goOn : Option Nat → cS → Option (Int32 × cS)) (k_2 : Int32 → cS → Option (Int32 × cS)) (l2 : Int32) (σ : cS) : Option (Int32 × cS) :=
  if (1002 : Int32) ≤ l2 then (cF_goOnRepeating_54 g_goOn  σ) else (none)
theorem cT_goOnRepeating_2b {S : zS} {q : Nat} {w w0 : zW} {Post : Option Value → zW → Prop} {b0 : Nat} {pa sa : Nat → Nat} {σ σ2 : cS} {v : Int32} {g_goOn : Option Nat → cS → Option (Int32 × cS)} {k_2 : Int32 → cS → Option (Int32 × cS)} {l2 : Int32} (hq : 1 ≤ q) (H_goOn : ∀ {x1 : Option Nat} {ν ν2 : cS} {y : Int32} {w : zW} {P : Option Value → zW → Prop}, g_goOn x1 ν = some (y, ν2) → cW b0 w0 pa sa ν w → (∀ w2, cW b0 w0 pa sa ν2 w2 → P (some (.int y)) w2) → zOk S q 38 0 (lv_args 0 [.ref (b0 + 3), cr sa x1]) [] w P) (H_2 : ∀ (l2 : Int32) (ν : cS) (w : zW), k_2 l2 ν = some (v, σ2) → cW b0 w0 pa sa ν w → zOk S (q + 1) 49 2 [(0, .ref (b0 + 3)), (1, .null), (2, .int l2)] [] w Post) (hk : cF_goOnRepeating_2b g_goOn k_2 l2 σ = some (v, σ2)) (h : cW b0 w0 pa sa σ w) (k : ∀ w2, cW b0 w0 pa sa σ2 w2 → Post (some (.int v)) w2) : zOk S (q + 1) 49 2 [(0, .ref (b0 + 3)), (1, .null), (2, .int l2)] [] w Post := by
  unfold cF_goOnRepeating_2b at hk
  refine zi_l rfl rfl rfl ?_
  refine zi_a (st' := .int 1002 :: _) rfl rfl rfl ?_
  refine zi_ifd rfl rfl rfl (tgt := 54) (by decide) (fun c1 => ?_) (fun c1 => ?_)
  · rw [if_pos c1] at hk
    refine zk_sub [1] rfl rfl ?_
    exact cT_goOnRepeating_54 hq H_goOn hk h k
  · rw [if_neg c1] at hk
    refine zi_l rfl rfl rfl ?_
    cases hk
def cF_goOnRepeating_2 (g_goOn : Option Nat → cS → Option (Int32 × cS)) : Nat → Int32 → cS → Option (Int32 × cS)
  | 0 => fun _ _ => none
  | n + 1 => fun l2 σ => cF_goOnRepeating_2b g_goOn (cF_goOnRepeating_2 g_goOn n) l2 σ
theorem cT_goOnRepeating_2 {S : zS} {q : Nat} {w0 : zW} {Post : Option Value → zW → Prop} {b0 : Nat} {pa sa : Nat → Nat} {σ2 : cS} {v : Int32} {g_goOn : Option Nat → cS → Option (Int32 × cS)} (hq : 1 ≤ q) (H_goOn : ∀ {x1 : Option Nat} {ν ν2 : cS} {y : Int32} {w : zW} {P : Option Value → zW → Prop}, g_goOn x1 ν = some (y, ν2) → cW b0 w0 pa sa ν w → (∀ w2, cW b0 w0 pa sa ν2 w2 → P (some (.int y)) w2) → zOk S q 38 0 (lv_args 0 [.ref (b0 + 3), cr sa x1]) [] w P) (k : ∀ w2, cW b0 w0 pa sa σ2 w2 → Post (some (.int v)) w2) : ∀ (n : Nat) (l2 : Int32) (σ : cS) (w : zW), cF_goOnRepeating_2 g_goOn n l2 σ = some (v, σ2) → cW b0 w0 pa sa σ w → zOk S (q + 1) 49 2 [(0, .ref (b0 + 3)), (1, .null), (2, .int l2)] [] w Post := by
  intro n
  induction n with
  | zero => intro l2 σ w hk; cases hk
  | succ n ih => intro l2 σ w hk h; exact cT_goOnRepeating_2b hq H_goOn ih hk h k
def cF_goOnRepeating_54a (g_goOn : Option Nat → cS → Option (Int32 × cS)) (l1 : Nat) (σ : cS) : Option (Int32 × cS) :=
  if l1 < σ.2.2.1 then if 0 ≤ (lg_cmp (σ.1.2.1 3 9 l1) (1 : Int64)) then (some ((0 : Int32), σ)) else (some ((1 : Int32), σ)) else none
theorem cT_goOnRepeating_54a {S : zS} {q : Nat} {w w0 : zW} {Post : Option Value → zW → Prop} {b0 : Nat} {pa sa : Nat → Nat} {σ σ2 : cS} {v : Int32} {g_goOn : Option Nat → cS → Option (Int32 × cS)} {l1 : Nat} (hq : 1 ≤ q) (H_goOn : ∀ {x1 : Option Nat} {ν ν2 : cS} {y : Int32} {w : zW} {P : Option Value → zW → Prop}, g_goOn x1 ν = some (y, ν2) → cW b0 w0 pa sa ν w → (∀ w2, cW b0 w0 pa sa ν2 w2 → P (some (.int y)) w2) → zOk S q 38 0 (lv_args 0 [.ref (b0 + 3), cr sa x1]) [] w P) (hk : cF_goOnRepeating_54a g_goOn l1 σ = some (v, σ2)) (h : cW b0 w0 pa sa σ w) (k : ∀ w2, cW b0 w0 pa sa σ2 w2 → Post (some (.int v)) w2) : zOk S (q + 1) 49 54 [(1, .ref (sa l1))] [] w Post := by
  unfold cF_goOnRepeating_54a at hk
  refine zi_l rfl rfl rfl ?_
  by_cases q1 : l1 < σ.2.2.1
  case neg => rw [if_neg q1] at hk; cases hk
  rw [if_pos q1] at hk
  refine zc_gS (v := .long (σ.1.2.1 3 9 l1)) h rfl rfl rfl q1 rfl ?_
  refine zi_a (st' := .long 1 :: _) rfl rfl rfl ?_
  refine zi_a rfl rfl rfl ?_
  refine zi_ifd rfl rfl rfl (tgt := 67) (by decide) (fun c2 => ?_) (fun c2 => ?_)
  · rw [if_pos c2] at hk
    refine zi_a (st' := .int 0 :: _) rfl rfl rfl ?_
    cases hk
    exact zi_rz rfl rfl (Or.inl rfl) (k w h)
  · rw [if_neg c2] at hk
    refine zi_a (st' := .int 1 :: _) rfl rfl rfl ?_
    refine zi_go rfl rfl rfl (tgt := 68) (by decide) ?_
    cases hk
    exact zi_rz rfl rfl (Or.inr rfl) (k w h)
def cF_goOnRepeating_2ab (g_goOn : Option Nat → cS → Option (Int32 × cS)) (k_2 : Nat → Int32 → cS → Option (Int32 × cS)) (l1 : Nat) (l2 : Int32) (σ : cS) : Option (Int32 × cS) :=
  if (1002 : Int32) ≤ l2 then (cF_goOnRepeating_54a g_goOn l1 σ) else (if l1 < σ.2.2.1 then if (lg_cmp (σ.1.2.1 3 9 l1) (0 : Int64)) ≤ 0 then (cF_goOnRepeating_54a g_goOn l1 σ) else (if l1 < σ.2.2.1 then match g_goOn (σ.1.2.2 3 5 l1) σ with | none => none | some (v6, m7) => if ¬ v6 = 0 then (if l1 < m7.2.2.1 then if l1 < m7.2.2.1 then cPut (cu2 m7 3 9 l1 ((m7.1.2.1 3 9 l1) - (1 : Int64))) fun m11 => if l1 < m11.2.2.1 then match cF_renew (m11.1.2.2 3 5 l1) m11 with | none => none | some (v14, m15) => k_2 l1 (l2 + Int32.ofInt 1) m15 else none else none else none) else (some ((0 : Int32), m7)) else none) else none)
theorem cT_goOnRepeating_2ab {S : zS} {q : Nat} {w w0 : zW} {Post : Option Value → zW → Prop} {b0 : Nat} {pa sa : Nat → Nat} {σ σ2 : cS} {v : Int32} {g_goOn : Option Nat → cS → Option (Int32 × cS)} {k_2 : Nat → Int32 → cS → Option (Int32 × cS)} {l1 : Nat} {l2 : Int32} (hq : 1 ≤ q) (H_goOn : ∀ {x1 : Option Nat} {ν ν2 : cS} {y : Int32} {w : zW} {P : Option Value → zW → Prop}, g_goOn x1 ν = some (y, ν2) → cW b0 w0 pa sa ν w → (∀ w2, cW b0 w0 pa sa ν2 w2 → P (some (.int y)) w2) → zOk S q 38 0 (lv_args 0 [.ref (b0 + 3), cr sa x1]) [] w P) (H_2 : ∀ (l1 : Nat) (l2 : Int32) (ν : cS) (w : zW), k_2 l1 l2 ν = some (v, σ2) → cW b0 w0 pa sa ν w → zOk S (q + 1) 49 2 [(0, .ref (b0 + 3)), (1, .ref (sa l1)), (2, .int l2)] [] w Post) (hk : cF_goOnRepeating_2ab g_goOn k_2 l1 l2 σ = some (v, σ2)) (h : cW b0 w0 pa sa σ w) (k : ∀ w2, cW b0 w0 pa sa σ2 w2 → Post (some (.int v)) w2) : zOk S (q + 1) 49 2 [(0, .ref (b0 + 3)), (1, .ref (sa l1)), (2, .int l2)] [] w Post := by
  unfold cF_goOnRepeating_2ab at hk
  refine zi_l rfl rfl rfl ?_
  refine zi_a (st' := .int 1002 :: _) rfl rfl rfl ?_
  refine zi_ifd rfl rfl rfl (tgt := 54) (by decide) (fun c1 => ?_) (fun c1 => ?_)
  · rw [if_pos c1] at hk
    refine zk_sub [1] rfl rfl ?_
    exact cT_goOnRepeating_54a hq H_goOn hk h k
  · rw [if_neg c1] at hk
    refine zi_l rfl rfl rfl ?_
    by_cases q2 : l1 < σ.2.2.1
    case neg => rw [if_neg q2] at hk; cases hk
    rw [if_pos q2] at hk
    refine zc_gS (v := .long (σ.1.2.1 3 9 l1)) h rfl rfl rfl q2 rfl ?_
    refine zi_a (st' := .long 0 :: _) rfl rfl rfl ?_
    refine zi_a rfl rfl rfl ?_
    refine zi_ifd rfl rfl rfl (tgt := 54) (by decide) (fun c3 => ?_) (fun c3 => ?_)
    · rw [if_pos c3] at hk
      refine zk_sub [1] rfl rfl ?_
      exact cT_goOnRepeating_54a hq H_goOn hk h k
    · rw [if_neg c3] at hk
      refine zi_l rfl rfl rfl ?_
      refine zi_l rfl rfl rfl ?_
      by_cases q4 : l1 < σ.2.2.1
      case neg => rw [if_neg q4] at hk; cases hk
      rw [if_pos q4] at hk
      refine zc_gS (v := cr sa (σ.1.2.2 3 5 l1)) h rfl rfl rfl q4 rfl ?_
      cases c5 : g_goOn (σ.1.2.2 3 5 l1) σ with
      | none => rw [c5] at hk; cases hk
      | some q1 =>
        obtain ⟨v6, m7⟩ := q1
        rw [c5] at hk
        dsimp only at hk
        refine zi_v rfl rfl rfl (h.sh (o := 3) (c := 4) (n := 10) (by decide)) rfl rfl (by generalize (σ.1.2.2 3 5 l1) = o0; cases o0 <;> rfl) (zOk.deep (H_goOn c5 h (fun w h => ?_)) (by omega))
        refine zi_ifd rfl rfl rfl (tgt := 31) (by decide) (fun c8 => ?_) (fun c8 => ?_)
        · rw [if_pos c8] at hk
          refine zi_l rfl rfl rfl ?_
          refine zi_a rfl rfl rfl ?_
          by_cases q9 : l1 < m7.2.2.1
          case neg => rw [if_neg q9] at hk; cases hk
          rw [if_pos q9] at hk
          refine zc_gS (v := .long (m7.1.2.1 3 9 l1)) h rfl rfl rfl q9 rfl ?_
          refine zi_a (st' := .long 1 :: _) rfl rfl rfl ?_
          refine zi_a rfl rfl rfl ?_
          by_cases q10 : l1 < m7.2.2.1
          case neg => rw [if_neg q10] at hk; cases hk
          rw [if_pos q10] at hk
          refine zc_pS2 h rfl rfl rfl q10 rfl ⟨rfl, rfl, Or.inl rfl⟩ (fun w h => ?_)
          generalize cu2 m7 3 9 l1 ((m7.1.2.1 3 9 l1) - (1 : Int64)) = m11 at h hk
          rw [cPut_eq] at hk
          refine zi_l rfl rfl rfl ?_
          by_cases q12 : l1 < m11.2.2.1
          case neg => rw [if_neg q12] at hk; cases hk
          rw [if_pos q12] at hk
          refine zc_gS (v := cr sa (m11.1.2.2 3 5 l1)) h rfl rfl rfl q12 rfl ?_
          cases c13 : cF_renew (m11.1.2.2 3 5 l1) m11 with
          | none => rw [c13] at hk; cases hk
          | some q1 =>
            obtain ⟨v14, m15⟩ := q1
            rw [c13] at hk
            dsimp only at hk
            refine zi_s rfl rfl rfl rfl (by generalize (m11.1.2.2 3 5 l1) = o0; cases o0 <;> rfl) (zOk.deep (cT_renew (q := 0) (by omega) c13 h (fun w h => ?_)) (by omega))
            refine zi_l rfl rfl rfl ?_
            refine zi_go rfl rfl rfl (tgt := 2) (by decide) ?_
            exact H_2 _ _ _ _ hk h
        · rw [if_neg c8] at hk
          refine zi_a (st' := .int 0 :: _) rfl rfl rfl ?_
          cases hk
          exact zi_rz rfl rfl (Or.inl rfl) (k w h)
def cF_goOnRepeating_2a (g_goOn : Option Nat → cS → Option (Int32 × cS)) : Nat → Nat → Int32 → cS → Option (Int32 × cS)
  | 0 => fun _ _ _ => none
  | n + 1 => fun l1 l2 σ => cF_goOnRepeating_2ab g_goOn (cF_goOnRepeating_2a g_goOn n) l1 l2 σ
theorem cT_goOnRepeating_2a {S : zS} {q : Nat} {w0 : zW} {Post : Option Value → zW → Prop} {b0 : Nat} {pa sa : Nat → Nat} {σ2 : cS} {v : Int32} {g_goOn : Option Nat → cS → Option (Int32 × cS)} (hq : 1 ≤ q) (H_goOn : ∀ {x1 : Option Nat} {ν ν2 : cS} {y : Int32} {w : zW} {P : Option Value → zW → Prop}, g_goOn x1 ν = some (y, ν2) → cW b0 w0 pa sa ν w → (∀ w2, cW b0 w0 pa sa ν2 w2 → P (some (.int y)) w2) → zOk S q 38 0 (lv_args 0 [.ref (b0 + 3), cr sa x1]) [] w P) (k : ∀ w2, cW b0 w0 pa sa σ2 w2 → Post (some (.int v)) w2) : ∀ (n : Nat) (l1 : Nat) (l2 : Int32) (σ : cS) (w : zW), cF_goOnRepeating_2a g_goOn n l1 l2 σ = some (v, σ2) → cW b0 w0 pa sa σ w → zOk S (q + 1) 49 2 [(0, .ref (b0 + 3)), (1, .ref (sa l1)), (2, .int l2)] [] w Post := by
  intro n
  induction n with
  | zero => intro l1 l2 σ w hk; cases hk
  | succ n ih => intro l1 l2 σ w hk h; exact cT_goOnRepeating_2ab hq H_goOn ih hk h k
def cF_goOnRepeating (g_goOn : Option Nat → cS → Option (Int32 × cS)) (a1 : Option Nat) (σ : cS) : Option (Int32 × cS) :=
  match a1 with | none => (cF_goOnRepeating_2 g_goOn 1100 (0 : Int32) σ) | some i1 => (cF_goOnRepeating_2a g_goOn 1100 i1 (0 : Int32) σ)
theorem cT_goOnRepeating {S : zS} {q : Nat} {w w0 : zW} {Post : Option Value → zW → Prop} {b0 : Nat} {pa sa : Nat → Nat} {σ σ2 : cS} {v : Int32} {g_goOn : Option Nat → cS → Option (Int32 × cS)} {a1 : Option Nat} (hq : 1 ≤ q) (H_goOn : ∀ {x1 : Option Nat} {ν ν2 : cS} {y : Int32} {w : zW} {P : Option Value → zW → Prop}, g_goOn x1 ν = some (y, ν2) → cW b0 w0 pa sa ν w → (∀ w2, cW b0 w0 pa sa ν2 w2 → P (some (.int y)) w2) → zOk S q 38 0 (lv_args 0 [.ref (b0 + 3), cr sa x1]) [] w P) (hk : cF_goOnRepeating g_goOn a1 σ = some (v, σ2)) (h : cW b0 w0 pa sa σ w) (k : ∀ w2, cW b0 w0 pa sa σ2 w2 → Post (some (.int v)) w2) : zOk S (q + 1) 49 0 (lv_args 0 [.ref (b0 + 3), cr sa a1]) [] w Post := by
  unfold cF_goOnRepeating at hk
  cases a1 with
  | none =>
    dsimp only at hk
    refine zi_a (st' := .int 0 :: _) rfl rfl rfl ?_
    refine zi_l rfl rfl rfl ?_
    exact cT_goOnRepeating_2 hq H_goOn k 1100 _ _ _ hk h
  | some i1 =>
    dsimp only at hk
    refine zi_a (st' := .int 0 :: _) rfl rfl rfl ?_
    refine zi_l rfl rfl rfl ?_
    exact cT_goOnRepeating_2a hq H_goOn k 1100 _ _ _ _ hk h
def cF_advance_147 (g_reckon : Option Nat → cS → Option (Int64 × cS)) (g_goOn : Option Nat → cS → Option (Int32 × cS)) (l1 : Nat) (σ : cS) : Option (Int32 × cS) :=
  match cF_goOnInOrder g_goOn (some l1) σ with | none => none | some (v2, m3) => if v2 = 0 ∨ v2 = 1 then some (v2, m3) else none
theorem cT_advance_147 {S : zS} {q : Nat} {w w0 : zW} {Post : Option Value → zW → Prop} {b0 : Nat} {pa sa : Nat → Nat} {σ σ2 : cS} {v : Int32} {g_reckon : Option Nat → cS → Option (Int64 × cS)} {g_goOn : Option Nat → cS → Option (Int32 × cS)} {l1 : Nat} (hq : 3 ≤ q) (H_reckon : ∀ {x1 : Option Nat} {ν ν2 : cS} {y : Int64} {w : zW} {P : Option Value → zW → Prop}, g_reckon x1 ν = some (y, ν2) → cW b0 w0 pa sa ν w → (∀ w2, cW b0 w0 pa sa ν2 w2 → P (some (.long y)) w2) → zOk S q 33 0 (lv_args 0 [.ref (b0 + 3), cr pa x1]) [] w P) (H_goOn : ∀ {x1 : Option Nat} {ν ν2 : cS} {y : Int32} {w : zW} {P : Option Value → zW → Prop}, g_goOn x1 ν = some (y, ν2) → cW b0 w0 pa sa ν w → (∀ w2, cW b0 w0 pa sa ν2 w2 → P (some (.int y)) w2) → zOk S q 38 0 (lv_args 0 [.ref (b0 + 3), cr sa x1]) [] w P) (hk : cF_advance_147 g_reckon g_goOn l1 σ = some (v, σ2)) (h : cW b0 w0 pa sa σ w) (k : ∀ w2, cW b0 w0 pa sa σ2 w2 → Post (some (.int v)) w2) : zOk S (q + 2) 43 147 [(0, .ref (b0 + 3)), (1, .ref (sa l1))] [] w Post := by
  unfold cF_advance_147 at hk
  refine zi_l rfl rfl rfl ?_
  refine zi_l rfl rfl rfl ?_
  cases c1 : cF_goOnInOrder g_goOn (some l1) σ with
  | none => rw [c1] at hk; cases hk
  | some q1 =>
    obtain ⟨v2, m3⟩ := q1
    rw [c1] at hk
    dsimp only at hk
    refine zi_v rfl rfl rfl (h.sh (o := 3) (c := 4) (n := 10) (by decide)) rfl rfl rfl (zOk.deep (cT_goOnInOrder (q := q) (by omega) H_goOn c1 h (fun w h => ?_)) (by omega))
    by_cases q4 : v2 = 0 ∨ v2 = 1
    case neg => rw [if_neg q4] at hk; cases hk
    rw [if_pos q4] at hk
    cases hk
    exact zi_rz rfl rfl q4 (k w h)
def cF_advance_118 (g_reckon : Option Nat → cS → Option (Int64 × cS)) (g_goOn : Option Nat → cS → Option (Int32 × cS)) (s0 : Int64) (σ : cS) : Option (Int32 × cS) :=
  if (lg_cmp s0 (0 : Int64)) = 0 then (some ((0 : Int32), σ)) else (if ¬ (σ.1.1 4 8 0) = 0 then (some ((0 : Int32), σ)) else (some ((1 : Int32), σ)))
theorem cT_advance_118 {S : zS} {q : Nat} {w w0 : zW} {Post : Option Value → zW → Prop} {b0 : Nat} {pa sa : Nat → Nat} {σ σ2 : cS} {v : Int32} {g_reckon : Option Nat → cS → Option (Int64 × cS)} {g_goOn : Option Nat → cS → Option (Int32 × cS)} {s0 : Int64} (hq : 3 ≤ q) (H_reckon : ∀ {x1 : Option Nat} {ν ν2 : cS} {y : Int64} {w : zW} {P : Option Value → zW → Prop}, g_reckon x1 ν = some (y, ν2) → cW b0 w0 pa sa ν w → (∀ w2, cW b0 w0 pa sa ν2 w2 → P (some (.long y)) w2) → zOk S q 33 0 (lv_args 0 [.ref (b0 + 3), cr pa x1]) [] w P) (H_goOn : ∀ {x1 : Option Nat} {ν ν2 : cS} {y : Int32} {w : zW} {P : Option Value → zW → Prop}, g_goOn x1 ν = some (y, ν2) → cW b0 w0 pa sa ν w → (∀ w2, cW b0 w0 pa sa ν2 w2 → P (some (.int y)) w2) → zOk S q 38 0 (lv_args 0 [.ref (b0 + 3), cr sa x1]) [] w P) (hk : cF_advance_118 g_reckon g_goOn s0 σ = some (v, σ2)) (h : cW b0 w0 pa sa σ w) (k : ∀ w2, cW b0 w0 pa sa σ2 w2 → Post (some (.int v)) w2) : zOk S (q + 2) 43 118 [(0, .ref (b0 + 3))] [.long s0] w Post := by
  unfold cF_advance_118 at hk
  refine zi_a (st' := .long 0 :: _) rfl rfl rfl ?_
  refine zi_a rfl rfl rfl ?_
  refine zi_ifd rfl rfl rfl (tgt := 134) (by decide) (fun c1 => ?_) (fun c1 => ?_)
  · rw [if_pos c1] at hk
    refine zi_a (st' := .int 0 :: _) rfl rfl rfl ?_
    cases hk
    exact zi_rz rfl rfl (Or.inl rfl) (k w h)
  · rw [if_neg c1] at hk
    refine zi_l rfl rfl rfl ?_
    refine zc_gv (o := 3) (n := 10) (v := .int (σ.1.1 4 8 0)) h rfl rfl rfl (by decide) (by decide) rfl ?_
    refine zi_ifd rfl rfl rfl (tgt := 134) (by decide) (fun c2 => ?_) (fun c2 => ?_)
    · rw [if_pos c2] at hk
      refine zi_a (st' := .int 0 :: _) rfl rfl rfl ?_
      cases hk
      exact zi_rz rfl rfl (Or.inl rfl) (k w h)
    · rw [if_neg c2] at hk
      refine zi_a (st' := .int 1 :: _) rfl rfl rfl ?_
      refine zi_go rfl rfl rfl (tgt := 135) (by decide) ?_
      cases hk
      exact zi_rz rfl rfl (Or.inr rfl) (k w h)
def cF_advance_179 (g_reckon : Option Nat → cS → Option (Int64 × cS)) (g_goOn : Option Nat → cS → Option (Int32 × cS)) (s1 : Option Nat) (σ : cS) : Option (Int32 × cS) :=
  match g_goOn s1 σ with | none => none | some (v2, m3) => if v2 = 0 ∨ v2 = 1 then some (v2, m3) else none
theorem cT_advance_179 {S : zS} {q : Nat} {w w0 : zW} {Post : Option Value → zW → Prop} {b0 : Nat} {pa sa : Nat → Nat} {σ σ2 : cS} {v : Int32} {g_reckon : Option Nat → cS → Option (Int64 × cS)} {g_goOn : Option Nat → cS → Option (Int32 × cS)} {s1 : Option Nat} (hq : 3 ≤ q) (H_reckon : ∀ {x1 : Option Nat} {ν ν2 : cS} {y : Int64} {w : zW} {P : Option Value → zW → Prop}, g_reckon x1 ν = some (y, ν2) → cW b0 w0 pa sa ν w → (∀ w2, cW b0 w0 pa sa ν2 w2 → P (some (.long y)) w2) → zOk S q 33 0 (lv_args 0 [.ref (b0 + 3), cr pa x1]) [] w P) (H_goOn : ∀ {x1 : Option Nat} {ν ν2 : cS} {y : Int32} {w : zW} {P : Option Value → zW → Prop}, g_goOn x1 ν = some (y, ν2) → cW b0 w0 pa sa ν w → (∀ w2, cW b0 w0 pa sa ν2 w2 → P (some (.int y)) w2) → zOk S q 38 0 (lv_args 0 [.ref (b0 + 3), cr sa x1]) [] w P) (hk : cF_advance_179 g_reckon g_goOn s1 σ = some (v, σ2)) (h : cW b0 w0 pa sa σ w) (k : ∀ w2, cW b0 w0 pa sa σ2 w2 → Post (some (.int v)) w2) : zOk S (q + 2) 43 179 [] [cr sa s1, .ref (b0 + 3)] w Post := by
  unfold cF_advance_179 at hk
  cases c1 : g_goOn s1 σ with
  | none => rw [c1] at hk; cases hk
  | some q1 =>
    obtain ⟨v2, m3⟩ := q1
    rw [c1] at hk
    dsimp only at hk
    refine zi_v rfl rfl rfl (h.sh (o := 3) (c := 4) (n := 10) (by decide)) rfl rfl (by generalize s1 = o0; cases o0 <;> rfl) (zOk.deep (H_goOn c1 h (fun w h => ?_)) (by omega))
    by_cases q4 : v2 = 0 ∨ v2 = 1
    case neg => rw [if_neg q4] at hk; cases hk
    rw [if_pos q4] at hk
    cases hk
    exact zi_rz rfl rfl q4 (k w h)
def cF_advance_159 (g_reckon : Option Nat → cS → Option (Int64 × cS)) (g_goOn : Option Nat → cS → Option (Int32 × cS)) (l1 : Nat) (σ : cS) : Option (Int32 × cS) :=
  if l1 < σ.2.2.1 then if ¬ (σ.1.1 3 7 l1) = (1 : Int32) then (if l1 < σ.2.2.1 then cF_advance_179 g_reckon g_goOn (σ.1.2.2 3 6 l1) σ else none) else (if l1 < σ.2.2.1 then cF_advance_179 g_reckon g_goOn (σ.1.2.2 3 5 l1) σ else none) else none
theorem cT_advance_159 {S : zS} {q : Nat} {w w0 : zW} {Post : Option Value → zW → Prop} {b0 : Nat} {pa sa : Nat → Nat} {σ σ2 : cS} {v : Int32} {g_reckon : Option Nat → cS → Option (Int64 × cS)} {g_goOn : Option Nat → cS → Option (Int32 × cS)} {l1 : Nat} (hq : 3 ≤ q) (H_reckon : ∀ {x1 : Option Nat} {ν ν2 : cS} {y : Int64} {w : zW} {P : Option Value → zW → Prop}, g_reckon x1 ν = some (y, ν2) → cW b0 w0 pa sa ν w → (∀ w2, cW b0 w0 pa sa ν2 w2 → P (some (.long y)) w2) → zOk S q 33 0 (lv_args 0 [.ref (b0 + 3), cr pa x1]) [] w P) (H_goOn : ∀ {x1 : Option Nat} {ν ν2 : cS} {y : Int32} {w : zW} {P : Option Value → zW → Prop}, g_goOn x1 ν = some (y, ν2) → cW b0 w0 pa sa ν w → (∀ w2, cW b0 w0 pa sa ν2 w2 → P (some (.int y)) w2) → zOk S q 38 0 (lv_args 0 [.ref (b0 + 3), cr sa x1]) [] w P) (hk : cF_advance_159 g_reckon g_goOn l1 σ = some (v, σ2)) (h : cW b0 w0 pa sa σ w) (k : ∀ w2, cW b0 w0 pa sa σ2 w2 → Post (some (.int v)) w2) : zOk S (q + 2) 43 159 [(0, .ref (b0 + 3)), (1, .ref (sa l1))] [] w Post := by
  unfold cF_advance_159 at hk
  refine zi_l rfl rfl rfl ?_
  refine zi_l rfl rfl rfl ?_
  by_cases q1 : l1 < σ.2.2.1
  case neg => rw [if_neg q1] at hk; cases hk
  rw [if_pos q1] at hk
  refine zc_gS (v := .int (σ.1.1 3 7 l1)) h rfl rfl rfl q1 rfl ?_
  refine zi_a (st' := .int 1 :: _) rfl rfl rfl ?_
  refine zi_ifd rfl rfl rfl (tgt := 175) (by decide) (fun c2 => ?_) (fun c2 => ?_)
  · rw [if_pos c2] at hk
    refine zi_l rfl rfl rfl ?_
    by_cases q3 : l1 < σ.2.2.1
    case neg => rw [if_neg q3] at hk; cases hk
    rw [if_pos q3] at hk
    refine zc_gS (v := cr sa (σ.1.2.2 3 6 l1)) h rfl rfl rfl q3 rfl ?_
    refine zk_sub [] rfl rfl ?_
    exact cT_advance_179 hq H_reckon H_goOn hk h k
  · rw [if_neg c2] at hk
    refine zi_l rfl rfl rfl ?_
    by_cases q4 : l1 < σ.2.2.1
    case neg => rw [if_neg q4] at hk; cases hk
    rw [if_pos q4] at hk
    refine zc_gS (v := cr sa (σ.1.2.2 3 5 l1)) h rfl rfl rfl q4 rfl ?_
    refine zi_go rfl rfl rfl (tgt := 179) (by decide) ?_
    refine zk_sub [] rfl rfl ?_
    exact cT_advance_179 hq H_reckon H_goOn hk h k
def cF_advance (g_reckon : Option Nat → cS → Option (Int64 × cS)) (g_goOn : Option Nat → cS → Option (Int32 × cS)) (a1 : Option Nat) (σ : cS) : Option (Int32 × cS) :=
  match a1 with | none => (none) | some i1 => (if i1 < σ.2.2.1 then if ((σ.1.1 3 0 i1)).toInt < 10 ∨ 21 < ((σ.1.1 3 0 i1)).toInt then (some ((1 : Int32), σ)) else if (σ.1.1 3 0 i1) = 10 then (cF_advance_147 g_reckon g_goOn i1 σ) else if (σ.1.1 3 0 i1) = 11 then (some ((1 : Int32), σ)) else if (σ.1.1 3 0 i1) = 12 then (some ((1 : Int32), σ)) else if (σ.1.1 3 0 i1) = 13 then (if i1 < σ.2.2.1 then if i1 < σ.2.2.1 then if (lg_cmp (((σ.1.1 4 6 0) - (σ.1.1 3 8 i1))).toInt64 (σ.1.2.1 3 9 i1)) < 0 then (some ((0 : Int32), σ)) else (some ((1 : Int32), σ)) else none else none) else if (σ.1.1 3 0 i1) = 14 then (if i1 < σ.2.2.1 then if ¬ (σ.1.1 4 6 0) = (σ.1.1 3 8 i1) then (if i1 < σ.2.2.1 then match g_reckon (σ.1.2.2 3 3 i1) σ with | none => none | some (v15, m16) => cF_advance_118 g_reckon g_goOn v15 m16 else none) else (if i1 < σ.2.2.1 then cF_advance_118 g_reckon g_goOn (σ.1.2.1 3 9 i1) σ else none) else none) else if (σ.1.1 3 0 i1) = 15 then (match cF_goOnSideBySide g_goOn (some i1) σ with | none => none | some (v20, m21) => if v20 = 0 ∨ v20 = 1 then some (v20, m21) else none) else if (σ.1.1 3 0 i1) = 16 then (cF_advance_159 g_reckon g_goOn i1 σ) else if (σ.1.1 3 0 i1) = 17 then (match cF_goOnRepeating g_goOn (some i1) σ with | none => none | some (v26, m27) => if v26 = 0 ∨ v26 = 1 then some (v26, m27) else none) else if (σ.1.1 3 0 i1) = 18 then (cF_advance_159 g_reckon g_goOn i1 σ) else if (σ.1.1 3 0 i1) = 19 then (match cF_moveRamp (some i1) σ with | none => none | some (v32, m33) => if v32 = 0 ∨ v32 = 1 then some (v32, m33) else none) else if (σ.1.1 3 0 i1) = 20 then (if i1 < σ.2.2.1 then if (σ.1.1 3 12 i1) = 0 ∨ (σ.1.1 3 12 i1) = 1 then some ((σ.1.1 3 12 i1), σ) else none else none) else if (σ.1.1 3 0 i1) = 21 then (cF_advance_147 g_reckon g_goOn i1 σ) else none else none)
theorem cT_advance {S : zS} {q : Nat} {w w0 : zW} {Post : Option Value → zW → Prop} {b0 : Nat} {pa sa : Nat → Nat} {σ σ2 : cS} {v : Int32} {g_reckon : Option Nat → cS → Option (Int64 × cS)} {g_goOn : Option Nat → cS → Option (Int32 × cS)} {a1 : Option Nat} (hq : 3 ≤ q) (H_reckon : ∀ {x1 : Option Nat} {ν ν2 : cS} {y : Int64} {w : zW} {P : Option Value → zW → Prop}, g_reckon x1 ν = some (y, ν2) → cW b0 w0 pa sa ν w → (∀ w2, cW b0 w0 pa sa ν2 w2 → P (some (.long y)) w2) → zOk S q 33 0 (lv_args 0 [.ref (b0 + 3), cr pa x1]) [] w P) (H_goOn : ∀ {x1 : Option Nat} {ν ν2 : cS} {y : Int32} {w : zW} {P : Option Value → zW → Prop}, g_goOn x1 ν = some (y, ν2) → cW b0 w0 pa sa ν w → (∀ w2, cW b0 w0 pa sa ν2 w2 → P (some (.int y)) w2) → zOk S q 38 0 (lv_args 0 [.ref (b0 + 3), cr sa x1]) [] w P) (hk : cF_advance g_reckon g_goOn a1 σ = some (v, σ2)) (h : cW b0 w0 pa sa σ w) (k : ∀ w2, cW b0 w0 pa sa σ2 w2 → Post (some (.int v)) w2) : zOk S (q + 2) 43 0 (lv_args 0 [.ref (b0 + 3), cr sa a1]) [] w Post := by
  unfold cF_advance at hk
  cases a1 with
  | none =>
    dsimp only at hk
    refine zi_l rfl rfl rfl ?_
    cases hk
  | some i1 =>
    dsimp only at hk
    refine zi_l rfl rfl rfl ?_
    by_cases q1 : i1 < σ.2.2.1
    case neg => rw [if_neg q1] at hk; cases hk
    rw [if_pos q1] at hk
    refine zc_gS (v := .int (σ.1.1 3 0 i1)) h rfl rfl rfl q1 rfl ?_
    by_cases c2 : ((σ.1.1 3 0 i1)).toInt < 10 ∨ 21 < ((σ.1.1 3 0 i1)).toInt
    · rw [if_pos c2] at hk
      refine zi_sd rfl c2 (tgt := 189) (by decide) ?_
      refine zi_a (st' := .int 1 :: _) rfl rfl rfl ?_
      cases hk
      exact zi_rz rfl rfl (Or.inr rfl) (k w h)
    rw [if_neg c2] at hk
    by_cases e3 : (σ.1.1 3 0 i1) = 10
    · rw [if_pos e3] at hk
      refine zi_si rfl c2 (off := 143) (by rw [e3]; rfl) (tgt := 147) (by decide) ?_
      exact cT_advance_147 hq H_reckon H_goOn hk h k
    rw [if_neg e3] at hk
    by_cases e4 : (σ.1.1 3 0 i1) = 11
    · rw [if_pos e4] at hk
      refine zi_si rfl c2 (off := 185) (by rw [e4]; rfl) (tgt := 189) (by decide) ?_
      refine zi_a (st' := .int 1 :: _) rfl rfl rfl ?_
      cases hk
      exact zi_rz rfl rfl (Or.inr rfl) (k w h)
    rw [if_neg e4] at hk
    by_cases e5 : (σ.1.1 3 0 i1) = 12
    · rw [if_pos e5] at hk
      refine zi_si rfl c2 (off := 185) (by rw [e5]; rfl) (tgt := 189) (by decide) ?_
      refine zi_a (st' := .int 1 :: _) rfl rfl rfl ?_
      cases hk
      exact zi_rz rfl rfl (Or.inr rfl) (k w h)
    rw [if_neg e5] at hk
    by_cases e6 : (σ.1.1 3 0 i1) = 13
    · rw [if_pos e6] at hk
      refine zi_si rfl c2 (off := 64) (by rw [e6]; rfl) (tgt := 68) (by decide) ?_
      refine zi_l rfl rfl rfl ?_
      refine zc_gv (o := 3) (n := 10) (v := .int (σ.1.1 4 6 0)) h rfl rfl rfl (by decide) (by decide) rfl ?_
      refine zi_l rfl rfl rfl ?_
      by_cases q7 : i1 < σ.2.2.1
      case neg => rw [if_neg q7] at hk; cases hk
      rw [if_pos q7] at hk
      refine zc_gS (v := .int (σ.1.1 3 8 i1)) h rfl rfl rfl q7 rfl ?_
      refine zi_a rfl rfl rfl ?_
      refine zi_a rfl rfl rfl ?_
      refine zi_l rfl rfl rfl ?_
      by_cases q8 : i1 < σ.2.2.1
      case neg => rw [if_neg q8] at hk; cases hk
      rw [if_pos q8] at hk
      refine zc_gS (v := .long (σ.1.2.1 3 9 i1)) h rfl rfl rfl q8 rfl ?_
      refine zi_a rfl rfl rfl ?_
      refine zi_ifd rfl rfl rfl (tgt := 90) (by decide) (fun c9 => ?_) (fun c9 => ?_)
      · rw [if_pos c9] at hk
        refine zi_a (st' := .int 0 :: _) rfl rfl rfl ?_
        cases hk
        exact zi_rz rfl rfl (Or.inl rfl) (k w h)
      · rw [if_neg c9] at hk
        refine zi_a (st' := .int 1 :: _) rfl rfl rfl ?_
        refine zi_go rfl rfl rfl (tgt := 91) (by decide) ?_
        cases hk
        exact zi_rz rfl rfl (Or.inr rfl) (k w h)
    rw [if_neg e6] at hk
    by_cases e10 : (σ.1.1 3 0 i1) = 14
    · rw [if_pos e10] at hk
      refine zi_si rfl c2 (off := 88) (by rw [e10]; rfl) (tgt := 92) (by decide) ?_
      refine zi_l rfl rfl rfl ?_
      refine zc_gv (o := 3) (n := 10) (v := .int (σ.1.1 4 6 0)) h rfl rfl rfl (by decide) (by decide) rfl ?_
      refine zi_l rfl rfl rfl ?_
      by_cases q11 : i1 < σ.2.2.1
      case neg => rw [if_neg q11] at hk; cases hk
      rw [if_pos q11] at hk
      refine zc_gS (v := .int (σ.1.1 3 8 i1)) h rfl rfl rfl q11 rfl ?_
      refine zi_ifd rfl rfl rfl (tgt := 110) (by decide) (fun c12 => ?_) (fun c12 => ?_)
      · rw [if_pos c12] at hk
        refine zi_l rfl rfl rfl ?_
        refine zi_l rfl rfl rfl ?_
        by_cases q13 : i1 < σ.2.2.1
        case neg => rw [if_neg q13] at hk; cases hk
        rw [if_pos q13] at hk
        refine zc_gS (v := cr pa (σ.1.2.2 3 3 i1)) h rfl rfl rfl q13 rfl ?_
        cases c14 : g_reckon (σ.1.2.2 3 3 i1) σ with
        | none => rw [c14] at hk; cases hk
        | some q1 =>
          obtain ⟨v15, m16⟩ := q1
          rw [c14] at hk
          dsimp only at hk
          refine zi_v rfl rfl rfl (h.sh (o := 3) (c := 4) (n := 10) (by decide)) rfl rfl (by generalize (σ.1.2.2 3 3 i1) = o0; cases o0 <;> rfl) (zOk.deep (H_reckon c14 h (fun w h => ?_)) (by omega))
          refine zk_sub [0] rfl rfl ?_
          exact cT_advance_118 hq H_reckon H_goOn hk h k
      · rw [if_neg c12] at hk
        refine zi_l rfl rfl rfl ?_
        by_cases q17 : i1 < σ.2.2.1
        case neg => rw [if_neg q17] at hk; cases hk
        rw [if_pos q17] at hk
        refine zc_gS (v := .long (σ.1.2.1 3 9 i1)) h rfl rfl rfl q17 rfl ?_
        refine zi_go rfl rfl rfl (tgt := 118) (by decide) ?_
        refine zk_sub [0] rfl rfl ?_
        exact cT_advance_118 hq H_reckon H_goOn hk h k
    rw [if_neg e10] at hk
    by_cases e18 : (σ.1.1 3 0 i1) = 15
    · rw [if_pos e18] at hk
      refine zi_si rfl c2 (off := 149) (by rw [e18]; rfl) (tgt := 153) (by decide) ?_
      refine zi_l rfl rfl rfl ?_
      refine zi_l rfl rfl rfl ?_
      cases c19 : cF_goOnSideBySide g_goOn (some i1) σ with
      | none => rw [c19] at hk; cases hk
      | some q1 =>
        obtain ⟨v20, m21⟩ := q1
        rw [c19] at hk
        dsimp only at hk
        refine zi_v rfl rfl rfl (h.sh (o := 3) (c := 4) (n := 10) (by decide)) rfl rfl rfl (zOk.deep (cT_goOnSideBySide (q := q) (by omega) H_goOn c19 h (fun w h => ?_)) (by omega))
        by_cases q22 : v20 = 0 ∨ v20 = 1
        case neg => rw [if_neg q22] at hk; cases hk
        rw [if_pos q22] at hk
        cases hk
        exact zi_rz rfl rfl q22 (k w h)
    rw [if_neg e18] at hk
    by_cases e23 : (σ.1.1 3 0 i1) = 16
    · rw [if_pos e23] at hk
      refine zi_si rfl c2 (off := 155) (by rw [e23]; rfl) (tgt := 159) (by decide) ?_
      exact cT_advance_159 hq H_reckon H_goOn hk h k
    rw [if_neg e23] at hk
    by_cases e24 : (σ.1.1 3 0 i1) = 17
    · rw [if_pos e24] at hk
      refine zi_si rfl c2 (off := 179) (by rw [e24]; rfl) (tgt := 183) (by decide) ?_
      refine zi_l rfl rfl rfl ?_
      refine zi_l rfl rfl rfl ?_
      cases c25 : cF_goOnRepeating g_goOn (some i1) σ with
      | none => rw [c25] at hk; cases hk
      | some q1 =>
        obtain ⟨v26, m27⟩ := q1
        rw [c25] at hk
        dsimp only at hk
        refine zi_v rfl rfl rfl (h.sh (o := 3) (c := 4) (n := 10) (by decide)) rfl rfl rfl (zOk.deep (cT_goOnRepeating (q := q) (by omega) H_goOn c25 h (fun w h => ?_)) (by omega))
        by_cases q28 : v26 = 0 ∨ v26 = 1
        case neg => rw [if_neg q28] at hk; cases hk
        rw [if_pos q28] at hk
        cases hk
        exact zi_rz rfl rfl q28 (k w h)
    rw [if_neg e24] at hk
    by_cases e29 : (σ.1.1 3 0 i1) = 18
    · rw [if_pos e29] at hk
      refine zi_si rfl c2 (off := 155) (by rw [e29]; rfl) (tgt := 159) (by decide) ?_
      exact cT_advance_159 hq H_reckon H_goOn hk h k
    rw [if_neg e29] at hk
    by_cases e30 : (σ.1.1 3 0 i1) = 19
    · rw [if_pos e30] at hk
      refine zi_si rfl c2 (off := 132) (by rw [e30]; rfl) (tgt := 136) (by decide) ?_
      refine zi_l rfl rfl rfl ?_
      refine zi_l rfl rfl rfl ?_
      cases c31 : cF_moveRamp (some i1) σ with
      | none => rw [c31] at hk; cases hk
      | some q1 =>
        obtain ⟨v32, m33⟩ := q1
        rw [c31] at hk
        dsimp only at hk
        refine zi_v rfl rfl rfl (h.sh (o := 3) (c := 4) (n := 10) (by decide)) rfl rfl rfl (zOk.deep (cT_moveRamp (q := 1) (by omega) c31 h (fun w h => ?_)) (by omega))
        by_cases q34 : v32 = 0 ∨ v32 = 1
        case neg => rw [if_neg q34] at hk; cases hk
        rw [if_pos q34] at hk
        cases hk
        exact zi_rz rfl rfl q34 (k w h)
    rw [if_neg e30] at hk
    by_cases e35 : (σ.1.1 3 0 i1) = 20
    · rw [if_pos e35] at hk
      refine zi_si rfl c2 (off := 138) (by rw [e35]; rfl) (tgt := 142) (by decide) ?_
      refine zi_l rfl rfl rfl ?_
      by_cases q36 : i1 < σ.2.2.1
      case neg => rw [if_neg q36] at hk; cases hk
      rw [if_pos q36] at hk
      refine zc_gS (v := .int (σ.1.1 3 12 i1)) h rfl rfl rfl q36 rfl ?_
      by_cases q37 : (σ.1.1 3 12 i1) = 0 ∨ (σ.1.1 3 12 i1) = 1
      case neg => rw [if_neg q37] at hk; cases hk
      rw [if_pos q37] at hk
      cases hk
      exact zi_rz rfl rfl q37 (k w h)
    rw [if_neg e35] at hk
    by_cases e38 : (σ.1.1 3 0 i1) = 21
    · rw [if_pos e38] at hk
      refine zi_si rfl c2 (off := 143) (by rw [e38]; rfl) (tgt := 147) (by decide) ?_
      exact cT_advance_147 hq H_reckon H_goOn hk h k
    rw [if_neg e38] at hk
    cases hk
def cF_goOn_40 (g_reckon : Option Nat → cS → Option (Int64 × cS)) (g_goOn : Option Nat → cS → Option (Int32 × cS)) (l1 : Nat) (σ : cS) : Option (Int32 × cS) :=
  match cF_advance g_reckon g_goOn (some l1) σ with | none => none | some (v2, m3) => if ¬ v2 = 0 then (if l1 < m3.2.2.1 then cPut (cu1 m3 3 7 l1 (3 : Int32)) fun m6 => some ((1 : Int32), m6) else none) else (some ((0 : Int32), m3))
theorem cT_goOn_40 {S : zS} {q : Nat} {w w0 : zW} {Post : Option Value → zW → Prop} {b0 : Nat} {pa sa : Nat → Nat} {σ σ2 : cS} {v : Int32} {g_reckon : Option Nat → cS → Option (Int64 × cS)} {g_goOn : Option Nat → cS → Option (Int32 × cS)} {l1 : Nat} (hq : 3 ≤ q) (H_reckon : ∀ {x1 : Option Nat} {ν ν2 : cS} {y : Int64} {w : zW} {P : Option Value → zW → Prop}, g_reckon x1 ν = some (y, ν2) → cW b0 w0 pa sa ν w → (∀ w2, cW b0 w0 pa sa ν2 w2 → P (some (.long y)) w2) → zOk S q 33 0 (lv_args 0 [.ref (b0 + 3), cr pa x1]) [] w P) (H_goOn : ∀ {x1 : Option Nat} {ν ν2 : cS} {y : Int32} {w : zW} {P : Option Value → zW → Prop}, g_goOn x1 ν = some (y, ν2) → cW b0 w0 pa sa ν w → (∀ w2, cW b0 w0 pa sa ν2 w2 → P (some (.int y)) w2) → zOk S q 38 0 (lv_args 0 [.ref (b0 + 3), cr sa x1]) [] w P) (hk : cF_goOn_40 g_reckon g_goOn l1 σ = some (v, σ2)) (h : cW b0 w0 pa sa σ w) (k : ∀ w2, cW b0 w0 pa sa σ2 w2 → Post (some (.int v)) w2) : zOk S (q + 3) 38 40 [(0, .ref (b0 + 3)), (1, .ref (sa l1))] [] w Post := by
  unfold cF_goOn_40 at hk
  refine zi_l rfl rfl rfl ?_
  refine zi_l rfl rfl rfl ?_
  cases c1 : cF_advance g_reckon g_goOn (some l1) σ with
  | none => rw [c1] at hk; cases hk
  | some q1 =>
    obtain ⟨v2, m3⟩ := q1
    rw [c1] at hk
    dsimp only at hk
    refine zi_v rfl rfl rfl (h.sh (o := 3) (c := 4) (n := 10) (by decide)) rfl rfl rfl (zOk.deep (cT_advance (q := q) (by omega) H_reckon H_goOn c1 h (fun w h => ?_)) (by omega))
    refine zi_ifd rfl rfl rfl (tgt := 50) (by decide) (fun c4 => ?_) (fun c4 => ?_)
    · rw [if_pos c4] at hk
      refine zi_l rfl rfl rfl ?_
      refine zi_a (st' := .int 3 :: _) rfl rfl rfl ?_
      by_cases q5 : l1 < m3.2.2.1
      case neg => rw [if_neg q5] at hk; cases hk
      rw [if_pos q5] at hk
      refine zc_pS1 h rfl rfl rfl q5 rfl ⟨rfl, rfl, Or.inl rfl⟩ (fun w h => ?_)
      generalize cu1 m3 3 7 l1 (3 : Int32) = m6 at h hk
      rw [cPut_eq] at hk
      refine zi_a (st' := .int 1 :: _) rfl rfl rfl ?_
      cases hk
      exact zi_rz rfl rfl (Or.inr rfl) (k w h)
    · rw [if_neg c4] at hk
      refine zi_a (st' := .int 0 :: _) rfl rfl rfl ?_
      cases hk
      exact zi_rz rfl rfl (Or.inl rfl) (k w h)
def cF_goOn (g_reckon : Option Nat → cS → Option (Int64 × cS)) (g_goOn : Option Nat → cS → Option (Int32 × cS)) (a1 : Option Nat) (σ : cS) : Option (Int32 × cS) :=
  match a1 with | none => (if (σ.1.1 4 8 0) = 0 then (some ((1 : Int32), σ)) else (some ((0 : Int32), σ))) | some i1 => (if (σ.1.1 4 8 0) = 0 then (if i1 < σ.2.2.1 then if ¬ (σ.1.1 3 7 i1) = (3 : Int32) then (if i1 < σ.2.2.1 then if ¬ (σ.1.1 3 7 i1) = 0 then (cF_goOn_40 g_reckon g_goOn i1 σ) else (match cF_begin g_reckon (some i1) σ with | none => none | some (v8, m9) => if ¬ v8 = 0 then (cF_goOn_40 g_reckon g_goOn i1 m9) else (some ((0 : Int32), m9))) else none) else (some ((1 : Int32), σ)) else none) else (some ((0 : Int32), σ)))
theorem cT_goOn {S : zS} {q : Nat} {w w0 : zW} {Post : Option Value → zW → Prop} {b0 : Nat} {pa sa : Nat → Nat} {σ σ2 : cS} {v : Int32} {g_reckon : Option Nat → cS → Option (Int64 × cS)} {g_goOn : Option Nat → cS → Option (Int32 × cS)} {a1 : Option Nat} (hq : 3 ≤ q) (H_reckon : ∀ {x1 : Option Nat} {ν ν2 : cS} {y : Int64} {w : zW} {P : Option Value → zW → Prop}, g_reckon x1 ν = some (y, ν2) → cW b0 w0 pa sa ν w → (∀ w2, cW b0 w0 pa sa ν2 w2 → P (some (.long y)) w2) → zOk S q 33 0 (lv_args 0 [.ref (b0 + 3), cr pa x1]) [] w P) (H_goOn : ∀ {x1 : Option Nat} {ν ν2 : cS} {y : Int32} {w : zW} {P : Option Value → zW → Prop}, g_goOn x1 ν = some (y, ν2) → cW b0 w0 pa sa ν w → (∀ w2, cW b0 w0 pa sa ν2 w2 → P (some (.int y)) w2) → zOk S q 38 0 (lv_args 0 [.ref (b0 + 3), cr sa x1]) [] w P) (hk : cF_goOn g_reckon g_goOn a1 σ = some (v, σ2)) (h : cW b0 w0 pa sa σ w) (k : ∀ w2, cW b0 w0 pa sa σ2 w2 → Post (some (.int v)) w2) : zOk S (q + 3) 38 0 (lv_args 0 [.ref (b0 + 3), cr sa a1]) [] w Post := by
  unfold cF_goOn at hk
  cases a1 with
  | none =>
    dsimp only at hk
    refine zi_l rfl rfl rfl ?_
    refine zc_gv (o := 3) (n := 10) (v := .int (σ.1.1 4 8 0)) h rfl rfl rfl (by decide) (by decide) rfl ?_
    refine zi_ifd rfl rfl rfl (tgt := 9) (by decide) (fun c1 => ?_) (fun c1 => ?_)
    · rw [if_pos c1] at hk
      refine zi_l rfl rfl rfl ?_
      refine zi_go rfl rfl rfl (tgt := 21) (by decide) ?_
      refine zi_a (st' := .int 1 :: _) rfl rfl rfl ?_
      cases hk
      exact zi_rz rfl rfl (Or.inr rfl) (k w h)
    · rw [if_neg c1] at hk
      refine zi_a (st' := .int 0 :: _) rfl rfl rfl ?_
      cases hk
      exact zi_rz rfl rfl (Or.inl rfl) (k w h)
  | some i1 =>
    dsimp only at hk
    refine zi_l rfl rfl rfl ?_
    refine zc_gv (o := 3) (n := 10) (v := .int (σ.1.1 4 8 0)) h rfl rfl rfl (by decide) (by decide) rfl ?_
    refine zi_ifd rfl rfl rfl (tgt := 9) (by decide) (fun c2 => ?_) (fun c2 => ?_)
    · rw [if_pos c2] at hk
      refine zi_l rfl rfl rfl ?_
      refine zi_stay rfl rfl rfl (tgt := 21) (by decide) ?_
      refine zi_l rfl rfl rfl ?_
      by_cases q3 : i1 < σ.2.2.1
      case neg => rw [if_neg q3] at hk; cases hk
      rw [if_pos q3] at hk
      refine zc_gS (v := .int (σ.1.1 3 7 i1)) h rfl rfl rfl q3 rfl ?_
      refine zi_a (st' := .int 3 :: _) rfl rfl rfl ?_
      refine zi_ifd rfl rfl rfl (tgt := 23) (by decide) (fun c4 => ?_) (fun c4 => ?_)
      · rw [if_pos c4] at hk
        refine zi_l rfl rfl rfl ?_
        by_cases q5 : i1 < σ.2.2.1
        case neg => rw [if_neg q5] at hk; cases hk
        rw [if_pos q5] at hk
        refine zc_gS (v := .int (σ.1.1 3 7 i1)) h rfl rfl rfl q5 rfl ?_
        refine zi_ifd rfl rfl rfl (tgt := 40) (by decide) (fun c6 => ?_) (fun c6 => ?_)
        · rw [if_pos c6] at hk
          exact cT_goOn_40 hq H_reckon H_goOn hk h k
        · rw [if_neg c6] at hk
          refine zi_l rfl rfl rfl ?_
          refine zi_l rfl rfl rfl ?_
          cases c7 : cF_begin g_reckon (some i1) σ with
          | none => rw [c7] at hk; cases hk
          | some q1 =>
            obtain ⟨v8, m9⟩ := q1
            rw [c7] at hk
            dsimp only at hk
            refine zi_v rfl rfl rfl (h.sh (o := 3) (c := 4) (n := 10) (by decide)) rfl rfl rfl (zOk.deep (cT_begin (q := q) (by omega) H_reckon c7 h (fun w h => ?_)) (by omega))
            refine zi_ifd rfl rfl rfl (tgt := 40) (by decide) (fun c10 => ?_) (fun c10 => ?_)
            · rw [if_pos c10] at hk
              exact cT_goOn_40 hq H_reckon H_goOn hk h k
            · rw [if_neg c10] at hk
              refine zi_a (st' := .int 0 :: _) rfl rfl rfl ?_
              cases hk
              exact zi_rz rfl rfl (Or.inl rfl) (k w h)
      · rw [if_neg c4] at hk
        refine zi_a (st' := .int 1 :: _) rfl rfl rfl ?_
        cases hk
        exact zi_rz rfl rfl (Or.inr rfl) (k w h)
    · rw [if_neg c2] at hk
      refine zi_a (st' := .int 0 :: _) rfl rfl rfl ?_
      cases hk
      exact zi_rz rfl rfl (Or.inl rfl) (k w h)
def cF_giveUp_83 (g_giveUp : Option Nat → cS → Option (Int32 × cS)) (g_goOn : Option Nat → cS → Option (Int32 × cS)) (l1 : Nat) (l2 : Int32) (σ : cS) : Option (Int32 × cS) :=
  if l1 < σ.2.2.1 then cPut (cu1 σ 3 7 l1 (3 : Int32)) fun m2 => some (l2, m2) else none
theorem cT_giveUp_83 {S : zS} {q : Nat} {w w0 : zW} {Post : Option Value → zW → Prop} {b0 : Nat} {pa sa : Nat → Nat} {σ σ2 : cS} {v : Int32} {g_giveUp : Option Nat → cS → Option (Int32 × cS)} {g_goOn : Option Nat → cS → Option (Int32 × cS)} {l1 : Nat} {l2 : Int32} (hq : 1 ≤ q) (H_giveUp : ∀ {x1 : Option Nat} {ν ν2 : cS} {y : Int32} {w : zW} {P : Option Value → zW → Prop}, g_giveUp x1 ν = some (y, ν2) → cW b0 w0 pa sa ν w → (∀ w2, cW b0 w0 pa sa ν2 w2 → P (some (.int y)) w2) → zOk S q 36 0 (lv_args 0 [.ref (b0 + 3), cr sa x1]) [] w P) (H_goOn : ∀ {x1 : Option Nat} {ν ν2 : cS} {y : Int32} {w : zW} {P : Option Value → zW → Prop}, g_goOn x1 ν = some (y, ν2) → cW b0 w0 pa sa ν w → (∀ w2, cW b0 w0 pa sa ν2 w2 → P (some (.int y)) w2) → zOk S q 38 0 (lv_args 0 [.ref (b0 + 3), cr sa x1]) [] w P) (hk : cF_giveUp_83 g_giveUp g_goOn l1 l2 σ = some (v, σ2)) (h : cW b0 w0 pa sa σ w) (k : ∀ w2, cW b0 w0 pa sa σ2 w2 → Post (some (.int v)) w2) : zOk S (q + 1) 36 83 [(1, .ref (sa l1)), (2, .int l2)] [] w Post := by
  unfold cF_giveUp_83 at hk
  refine zi_l rfl rfl rfl ?_
  refine zi_a (st' := .int 3 :: _) rfl rfl rfl ?_
  by_cases q1 : l1 < σ.2.2.1
  case neg => rw [if_neg q1] at hk; cases hk
  rw [if_pos q1] at hk
  refine zc_pS1 h rfl rfl rfl q1 rfl ⟨rfl, rfl, Or.inl rfl⟩ (fun w h => ?_)
  generalize cu1 σ 3 7 l1 (3 : Int32) = m2 at h hk
  rw [cPut_eq] at hk
  refine zi_l rfl rfl rfl ?_
  cases hk
  exact zi_ri rfl rfl (k w h)
def cF_giveUp (g_giveUp : Option Nat → cS → Option (Int32 × cS)) (g_goOn : Option Nat → cS → Option (Int32 × cS)) (a1 : Option Nat) (σ : cS) : Option (Int32 × cS) :=
  match a1 with | none => (some ((0 : Int32), σ)) | some i1 => (if i1 < σ.2.2.1 then match cF_isOpen i1 σ with | none => none | some (v3, m4) => if ¬ v3 = 0 then (if i1 < m4.2.2.1 then match g_giveUp (m4.1.2.2 3 5 i1) m4 with | none => none | some (v8, m9) => if i1 < m9.2.2.1 then if ¬ (m9.1.1 3 0 i1) = (21 : Int32) then (if i1 < m9.2.2.1 then match g_giveUp (m9.1.2.2 3 6 i1) m9 with | none => none | some (v14, m15) => cF_giveUp_83 g_giveUp g_goOn i1 (v8 + v14) m15 else none) else (cPut (cu1 m9 4 9 0 (1 : Int32)) fun m16 => if i1 < m16.2.2.1 then match g_goOn (m16.1.2.2 3 6 i1) m16 with | none => none | some (v19, m20) => cPut (cu1 m20 4 9 0 (0 : Int32)) fun m21 => cPut (cu1 m21 4 8 0 (0 : Int32)) fun m22 => if i1 < m22.2.2.1 then match cF_addClosed (m22.1.1 3 1 i1) m22 with | none => none | some (v25, m26) => cF_giveUp_83 g_giveUp g_goOn i1 (v8 + Int32.ofInt 1) m26 else none else none) else none else none) else (some ((0 : Int32), m4)) else none)
theorem cT_giveUp {S : zS} {q : Nat} {w w0 : zW} {Post : Option Value → zW → Prop} {b0 : Nat} {pa sa : Nat → Nat} {σ σ2 : cS} {v : Int32} {g_giveUp : Option Nat → cS → Option (Int32 × cS)} {g_goOn : Option Nat → cS → Option (Int32 × cS)} {a1 : Option Nat} (hq : 1 ≤ q) (H_giveUp : ∀ {x1 : Option Nat} {ν ν2 : cS} {y : Int32} {w : zW} {P : Option Value → zW → Prop}, g_giveUp x1 ν = some (y, ν2) → cW b0 w0 pa sa ν w → (∀ w2, cW b0 w0 pa sa ν2 w2 → P (some (.int y)) w2) → zOk S q 36 0 (lv_args 0 [.ref (b0 + 3), cr sa x1]) [] w P) (H_goOn : ∀ {x1 : Option Nat} {ν ν2 : cS} {y : Int32} {w : zW} {P : Option Value → zW → Prop}, g_goOn x1 ν = some (y, ν2) → cW b0 w0 pa sa ν w → (∀ w2, cW b0 w0 pa sa ν2 w2 → P (some (.int y)) w2) → zOk S q 38 0 (lv_args 0 [.ref (b0 + 3), cr sa x1]) [] w P) (hk : cF_giveUp g_giveUp g_goOn a1 σ = some (v, σ2)) (h : cW b0 w0 pa sa σ w) (k : ∀ w2, cW b0 w0 pa sa σ2 w2 → Post (some (.int v)) w2) : zOk S (q + 1) 36 0 (lv_args 0 [.ref (b0 + 3), cr sa a1]) [] w Post := by
  unfold cF_giveUp at hk
  cases a1 with
  | none =>
    dsimp only at hk
    refine zi_l rfl rfl rfl ?_
    refine zi_go rfl rfl rfl (tgt := 11) (by decide) ?_
    refine zi_a (st' := .int 0 :: _) rfl rfl rfl ?_
    cases hk
    exact zi_ri rfl rfl (k w h)
  | some i1 =>
    dsimp only at hk
    refine zi_l rfl rfl rfl ?_
    refine zi_stay rfl rfl rfl (tgt := 11) (by decide) ?_
    refine zi_l rfl rfl rfl ?_
    by_cases q1 : i1 < σ.2.2.1
    case neg => rw [if_neg q1] at hk; cases hk
    rw [if_pos q1] at hk
    cases c2 : cF_isOpen i1 σ with
    | none => rw [c2] at hk; cases hk
    | some q1 =>
      obtain ⟨v3, m4⟩ := q1
      rw [c2] at hk
      dsimp only at hk
      refine zi_v rfl rfl rfl (h.shS q1) rfl rfl rfl (zOk.deep (cT_isOpen (q := 0) (by omega) c2 h (fun w h => ?_)) (by omega))
      refine zi_ifd rfl rfl rfl (tgt := 13) (by decide) (fun c5 => ?_) (fun c5 => ?_)
      · rw [if_pos c5] at hk
        refine zi_l rfl rfl rfl ?_
        refine zi_l rfl rfl rfl ?_
        by_cases q6 : i1 < m4.2.2.1
        case neg => rw [if_neg q6] at hk; cases hk
        rw [if_pos q6] at hk
        refine zc_gS (v := cr sa (m4.1.2.2 3 5 i1)) h rfl rfl rfl q6 rfl ?_
        cases c7 : g_giveUp (m4.1.2.2 3 5 i1) m4 with
        | none => rw [c7] at hk; cases hk
        | some q1 =>
          obtain ⟨v8, m9⟩ := q1
          rw [c7] at hk
          dsimp only at hk
          refine zi_v rfl rfl rfl (h.sh (o := 3) (c := 4) (n := 10) (by decide)) rfl rfl (by generalize (m4.1.2.2 3 5 i1) = o0; cases o0 <;> rfl) (zOk.deep (H_giveUp c7 h (fun w h => ?_)) (by omega))
          refine zi_l rfl rfl rfl ?_
          refine zi_l rfl rfl rfl ?_
          by_cases q10 : i1 < m9.2.2.1
          case neg => rw [if_neg q10] at hk; cases hk
          rw [if_pos q10] at hk
          refine zc_gS (v := .int (m9.1.1 3 0 i1)) h rfl rfl rfl q10 rfl ?_
          refine zi_a (st' := .int 21 :: _) rfl rfl rfl ?_
          refine zi_ifd rfl rfl rfl (tgt := 72) (by decide) (fun c11 => ?_) (fun c11 => ?_)
          · rw [if_pos c11] at hk
            refine zi_l rfl rfl rfl ?_
            refine zi_l rfl rfl rfl ?_
            refine zi_l rfl rfl rfl ?_
            by_cases q12 : i1 < m9.2.2.1
            case neg => rw [if_neg q12] at hk; cases hk
            rw [if_pos q12] at hk
            refine zc_gS (v := cr sa (m9.1.2.2 3 6 i1)) h rfl rfl rfl q12 rfl ?_
            cases c13 : g_giveUp (m9.1.2.2 3 6 i1) m9 with
            | none => rw [c13] at hk; cases hk
            | some q1 =>
              obtain ⟨v14, m15⟩ := q1
              rw [c13] at hk
              dsimp only at hk
              refine zi_v rfl rfl rfl (h.sh (o := 3) (c := 4) (n := 10) (by decide)) rfl rfl (by generalize (m9.1.2.2 3 6 i1) = o0; cases o0 <;> rfl) (zOk.deep (H_giveUp c13 h (fun w h => ?_)) (by omega))
              refine zi_a rfl rfl rfl ?_
              refine zi_l rfl rfl rfl ?_
              refine zk_sub [1, 2] rfl rfl ?_
              exact cT_giveUp_83 hq H_giveUp H_goOn hk h k
          · rw [if_neg c11] at hk
            refine zi_l rfl rfl rfl ?_
            refine zi_a (st' := .int 1 :: _) rfl rfl rfl ?_
            refine zc_pv (o := 3) (n := 10) h rfl rfl rfl (by decide) (by decide) rfl ⟨rfl, rfl, Or.inl rfl⟩ (fun w h => ?_)
            generalize cu1 m9 4 9 0 (1 : Int32) = m16 at h hk
            rw [cPut_eq] at hk
            refine zi_l rfl rfl rfl ?_
            refine zi_l rfl rfl rfl ?_
            by_cases q17 : i1 < m16.2.2.1
            case neg => rw [if_neg q17] at hk; cases hk
            rw [if_pos q17] at hk
            refine zc_gS (v := cr sa (m16.1.2.2 3 6 i1)) h rfl rfl rfl q17 rfl ?_
            cases c18 : g_goOn (m16.1.2.2 3 6 i1) m16 with
            | none => rw [c18] at hk; cases hk
            | some q1 =>
              obtain ⟨v19, m20⟩ := q1
              rw [c18] at hk
              dsimp only at hk
              refine zi_v rfl rfl rfl (h.sh (o := 3) (c := 4) (n := 10) (by decide)) rfl rfl (by generalize (m16.1.2.2 3 6 i1) = o0; cases o0 <;> rfl) (zOk.deep (H_goOn c18 h (fun w h => ?_)) (by omega))
              refine zi_a rfl rfl rfl ?_
              refine zi_l rfl rfl rfl ?_
              refine zi_a (st' := .int 0 :: _) rfl rfl rfl ?_
              refine zc_pv (o := 3) (n := 10) h rfl rfl rfl (by decide) (by decide) rfl ⟨rfl, rfl, Or.inl rfl⟩ (fun w h => ?_)
              generalize cu1 m20 4 9 0 (0 : Int32) = m21 at h hk
              rw [cPut_eq] at hk
              refine zi_l rfl rfl rfl ?_
              refine zi_a (st' := .int 0 :: _) rfl rfl rfl ?_
              refine zc_pv (o := 3) (n := 10) h rfl rfl rfl (by decide) (by decide) rfl ⟨rfl, rfl, Or.inl rfl⟩ (fun w h => ?_)
              generalize cu1 m21 4 8 0 (0 : Int32) = m22 at h hk
              rw [cPut_eq] at hk
              refine zi_l rfl rfl rfl ?_
              refine zc_gf (c := 4) (k := 1) (o := 3) (n := 10) (t := 10) h rfl rfl rfl (by decide) (by decide) ?_
              refine zi_l rfl rfl rfl ?_
              by_cases q23 : i1 < m22.2.2.1
              case neg => rw [if_neg q23] at hk; cases hk
              rw [if_pos q23] at hk
              refine zc_gS (v := .int (m22.1.1 3 1 i1)) h rfl rfl rfl q23 rfl ?_
              cases c24 : cF_addClosed (m22.1.1 3 1 i1) m22 with
              | none => rw [c24] at hk; cases hk
              | some q1 =>
                obtain ⟨v25, m26⟩ := q1
                rw [c24] at hk
                dsimp only at hk
                refine zi_v rfl rfl rfl (h.sh (o := 10) (c := 0) (n := 6) (by decide)) rfl rfl rfl (zOk.deep (cT_addClosed (q := 0) (by omega) c24 h (fun w h => ?_)) (by omega))
                refine zi_l rfl rfl rfl ?_
                refine zi_go rfl rfl rfl (tgt := 83) (by decide) ?_
                refine zk_sub [1, 2] rfl rfl ?_
                exact cT_giveUp_83 hq H_giveUp H_goOn hk h k
      · rw [if_neg c5] at hk
        refine zi_a (st' := .int 0 :: _) rfl rfl rfl ?_
        cases hk
        exact zi_ri rfl rfl (k w h)
def cF_lookAtLimits_107 (g_reckon : Option Nat → cS → Option (Int64 × cS)) (g_giveUp : Option Nat → cS → Option (Int32 × cS)) (k_2 : Int32 → cS → Option (Unit × cS)) (l1 : Int32) (σ : cS) : Option (Unit × cS) :=
  k_2 (l1 + Int32.ofInt 1) σ
theorem cT_lookAtLimits_107 {S : zS} {q : Nat} {w w0 : zW} {Post : Option Value → zW → Prop} {b0 : Nat} {pa sa : Nat → Nat} {σ σ2 : cS} {v : Unit} {g_reckon : Option Nat → cS → Option (Int64 × cS)} {g_giveUp : Option Nat → cS → Option (Int32 × cS)} {k_2 : Int32 → cS → Option (Unit × cS)} {l1 : Int32} (hq : 1 ≤ q) (H_reckon : ∀ {x1 : Option Nat} {ν ν2 : cS} {y : Int64} {w : zW} {P : Option Value → zW → Prop}, g_reckon x1 ν = some (y, ν2) → cW b0 w0 pa sa ν w → (∀ w2, cW b0 w0 pa sa ν2 w2 → P (some (.long y)) w2) → zOk S q 33 0 (lv_args 0 [.ref (b0 + 3), cr pa x1]) [] w P) (H_giveUp : ∀ {x1 : Option Nat} {ν ν2 : cS} {y : Int32} {w : zW} {P : Option Value → zW → Prop}, g_giveUp x1 ν = some (y, ν2) → cW b0 w0 pa sa ν w → (∀ w2, cW b0 w0 pa sa ν2 w2 → P (some (.int y)) w2) → zOk S q 36 0 (lv_args 0 [.ref (b0 + 3), cr sa x1]) [] w P) (H_2 : ∀ (l1 : Int32) (ν : cS) (w : zW), k_2 l1 ν = some (v, σ2) → cW b0 w0 pa sa ν w → zOk S (q + 1) 32 2 [(0, .ref (b0 + 3)), (1, .int l1)] [] w Post) (hk : cF_lookAtLimits_107 g_reckon g_giveUp k_2 l1 σ = some (v, σ2)) (h : cW b0 w0 pa sa σ w) (k : ∀ w2, cW b0 w0 pa sa σ2 w2 → Post none w2) : zOk S (q + 1) 32 107 [(0, .ref (b0 + 3)), (1, .int l1)] [] w Post := by
  unfold cF_lookAtLimits_107 at hk
  refine zi_l rfl rfl rfl ?_
  refine zi_go rfl rfl rfl (tgt := 2) (by decide) ?_
  exact H_2 _ _ _ hk h
def cF_lookAtLimits_2b (g_reckon : Option Nat → cS → Option (Int64 × cS)) (g_giveUp : Option Nat → cS → Option (Int32 × cS)) (k_2 : Int32 → cS → Option (Unit × cS)) (l1 : Int32) (σ : cS) : Option (Unit × cS) :=
  if (σ.1.1 4 3 0) ≤ l1 then (some ((), σ)) else (if (Int32.ofNat 500) ≤ l1 then (some ((), σ)) else (if ¬ (σ.1.1 4 8 0) = 0 then (some ((), σ)) else (if zix l1 500 then match (σ.1.2.2 20 0 (l1).toNatClampNeg) with | none => (cF_lookAtLimits_107 g_reckon g_giveUp k_2 l1 σ) | some i6 => (if i6 < σ.2.2.1 then if ¬ (σ.1.1 3 0 i6) = (18 : Int32) then (cF_lookAtLimits_107 g_reckon g_giveUp k_2 l1 σ) else (if i6 < σ.2.2.1 then if (σ.1.1 3 7 i6) = (1 : Int32) then (if i6 < σ.2.2.1 then match g_reckon (σ.1.2.2 3 3 i6) σ with | none => none | some (v13, m14) => if ¬ (lg_cmp v13 (0 : Int64)) = 0 then (cF_lookAtLimits_107 g_reckon g_giveUp k_2 l1 m14) else (if ¬ (m14.1.1 4 8 0) = 0 then (cF_lookAtLimits_107 g_reckon g_giveUp k_2 l1 m14) else (if i6 < m14.2.2.1 then match cF_addAlarm (m14.1.1 4 6 0) (m14.1.1 3 1 i6) (3 : Int32) m14 with | none => none | some (v19, m20) => if i6 < m20.2.2.1 then match g_giveUp (m20.1.2.2 3 5 i6) m20 with | none => none | some (v23, m24) => if i6 < m24.2.2.1 then cPut (cu1 m24 3 7 i6 (2 : Int32)) fun m26 => cF_lookAtLimits_107 g_reckon g_giveUp k_2 l1 m26 else none else none else none)) else none) else (cF_lookAtLimits_107 g_reckon g_giveUp k_2 l1 σ) else none) else none) else none)))
theorem cT_lookAtLimits_2b {S : zS} {q : Nat} {w w0 : zW} {Post : Option Value → zW → Prop} {b0 : Nat} {pa sa : Nat → Nat} {σ σ2 : cS} {v : Unit} {g_reckon : Option Nat → cS → Option (Int64 × cS)} {g_giveUp : Option Nat → cS → Option (Int32 × cS)} {k_2 : Int32 → cS → Option (Unit × cS)} {l1 : Int32} (hq : 1 ≤ q) (H_reckon : ∀ {x1 : Option Nat} {ν ν2 : cS} {y : Int64} {w : zW} {P : Option Value → zW → Prop}, g_reckon x1 ν = some (y, ν2) → cW b0 w0 pa sa ν w → (∀ w2, cW b0 w0 pa sa ν2 w2 → P (some (.long y)) w2) → zOk S q 33 0 (lv_args 0 [.ref (b0 + 3), cr pa x1]) [] w P) (H_giveUp : ∀ {x1 : Option Nat} {ν ν2 : cS} {y : Int32} {w : zW} {P : Option Value → zW → Prop}, g_giveUp x1 ν = some (y, ν2) → cW b0 w0 pa sa ν w → (∀ w2, cW b0 w0 pa sa ν2 w2 → P (some (.int y)) w2) → zOk S q 36 0 (lv_args 0 [.ref (b0 + 3), cr sa x1]) [] w P) (H_2 : ∀ (l1 : Int32) (ν : cS) (w : zW), k_2 l1 ν = some (v, σ2) → cW b0 w0 pa sa ν w → zOk S (q + 1) 32 2 [(0, .ref (b0 + 3)), (1, .int l1)] [] w Post) (hk : cF_lookAtLimits_2b g_reckon g_giveUp k_2 l1 σ = some (v, σ2)) (h : cW b0 w0 pa sa σ w) (k : ∀ w2, cW b0 w0 pa sa σ2 w2 → Post none w2) : zOk S (q + 1) 32 2 [(0, .ref (b0 + 3)), (1, .int l1)] [] w Post := by
  unfold cF_lookAtLimits_2b at hk
  refine zi_l rfl rfl rfl ?_
  refine zi_l rfl rfl rfl ?_
  refine zc_gv (o := 3) (n := 10) (v := .int (σ.1.1 4 3 0)) h rfl rfl rfl (by decide) (by decide) rfl ?_
  refine zi_ifd rfl rfl rfl (tgt := 113) (by decide) (fun c1 => ?_) (fun c1 => ?_)
  · rw [if_pos c1] at hk
    cases hk
    exact zi_ret rfl rfl rfl (k w h)
  · rw [if_neg c1] at hk
    refine zi_l rfl rfl rfl ?_
    refine zi_l rfl rfl rfl ?_
    refine zc_gf (c := 4) (k := 2) (o := 3) (n := 10) (t := 15) h rfl rfl rfl (by decide) (by decide) ?_
    refine zc_len (o := 15) (c := 104) (n := 500) h rfl (by decide) rfl ?_
    refine zi_ifd rfl rfl rfl (tgt := 113) (by decide) (fun c2 => ?_) (fun c2 => ?_)
    · rw [if_pos c2] at hk
      cases hk
      exact zi_ret rfl rfl rfl (k w h)
    · rw [if_neg c2] at hk
      refine zi_l rfl rfl rfl ?_
      refine zc_gv (o := 3) (n := 10) (v := .int (σ.1.1 4 8 0)) h rfl rfl rfl (by decide) (by decide) rfl ?_
      refine zi_ifd rfl rfl rfl (tgt := 113) (by decide) (fun c3 => ?_) (fun c3 => ?_)
      · rw [if_pos c3] at hk
        cases hk
        exact zi_ret rfl rfl rfl (k w h)
      · rw [if_neg c3] at hk
        refine zi_l rfl rfl rfl ?_
        refine zc_gf (c := 4) (k := 2) (o := 3) (n := 10) (t := 15) h rfl rfl rfl (by decide) (by decide) ?_
        refine zi_l rfl rfl rfl ?_
        by_cases q4 : zix l1 500
        case neg => rw [if_neg q4] at hk; cases hk
        rw [if_pos q4] at hk
        refine zc_ls h rfl q4 ?_
        cases e5 : (σ.1.2.2 20 0 (l1).toNatClampNeg) with
        | none =>
          rw [e5] at hk
          try rw [e5]
          dsimp only at hk
          refine zi_l rfl rfl rfl ?_
          refine zi_l rfl rfl rfl ?_
          refine zi_go rfl rfl rfl (tgt := 107) (by decide) ?_
          refine zk_sub [0, 1] rfl rfl ?_
          exact cT_lookAtLimits_107 hq H_reckon H_giveUp H_2 hk h k
        | some i6 =>
          rw [e5] at hk
          try rw [e5]
          dsimp only at hk
          refine zi_l rfl rfl rfl ?_
          refine zi_l rfl rfl rfl ?_
          refine zi_stay rfl rfl rfl (tgt := 107) (by decide) ?_
          refine zi_l rfl rfl rfl ?_
          by_cases q7 : i6 < σ.2.2.1
          case neg => rw [if_neg q7] at hk; cases hk
          rw [if_pos q7] at hk
          refine zc_gS (v := .int (σ.1.1 3 0 i6)) h rfl rfl rfl q7 rfl ?_
          refine zi_a (st' := .int 18 :: _) rfl rfl rfl ?_
          refine zi_ifd rfl rfl rfl (tgt := 107) (by decide) (fun c8 => ?_) (fun c8 => ?_)
          · rw [if_pos c8] at hk
            refine zk_sub [0, 1] rfl rfl ?_
            exact cT_lookAtLimits_107 hq H_reckon H_giveUp H_2 hk h k
          · rw [if_neg c8] at hk
            refine zi_l rfl rfl rfl ?_
            by_cases q9 : i6 < σ.2.2.1
            case neg => rw [if_neg q9] at hk; cases hk
            rw [if_pos q9] at hk
            refine zc_gS (v := .int (σ.1.1 3 7 i6)) h rfl rfl rfl q9 rfl ?_
            refine zi_a (st' := .int 1 :: _) rfl rfl rfl ?_
            refine zi_ifd rfl rfl rfl (tgt := 57) (by decide) (fun c10 => ?_) (fun c10 => ?_)
            · rw [if_pos c10] at hk
              refine zi_l rfl rfl rfl ?_
              refine zi_l rfl rfl rfl ?_
              by_cases q11 : i6 < σ.2.2.1
              case neg => rw [if_neg q11] at hk; cases hk
              rw [if_pos q11] at hk
              refine zc_gS (v := cr pa (σ.1.2.2 3 3 i6)) h rfl rfl rfl q11 rfl ?_
              cases c12 : g_reckon (σ.1.2.2 3 3 i6) σ with
              | none => rw [c12] at hk; cases hk
              | some q1 =>
                obtain ⟨v13, m14⟩ := q1
                rw [c12] at hk
                dsimp only at hk
                refine zi_v rfl rfl rfl (h.sh (o := 3) (c := 4) (n := 10) (by decide)) rfl rfl (by generalize (σ.1.2.2 3 3 i6) = o0; cases o0 <;> rfl) (zOk.deep (H_reckon c12 h (fun w h => ?_)) (by omega))
                refine zi_a (st' := .long 0 :: _) rfl rfl rfl ?_
                refine zi_a rfl rfl rfl ?_
                refine zi_ifd rfl rfl rfl (tgt := 107) (by decide) (fun c15 => ?_) (fun c15 => ?_)
                · rw [if_pos c15] at hk
                  refine zk_sub [0, 1] rfl rfl ?_
                  exact cT_lookAtLimits_107 hq H_reckon H_giveUp H_2 hk h k
                · rw [if_neg c15] at hk
                  refine zi_l rfl rfl rfl ?_
                  refine zc_gv (o := 3) (n := 10) (v := .int (m14.1.1 4 8 0)) h rfl rfl rfl (by decide) (by decide) rfl ?_
                  refine zi_ifd rfl rfl rfl (tgt := 107) (by decide) (fun c16 => ?_) (fun c16 => ?_)
                  · rw [if_pos c16] at hk
                    refine zk_sub [0, 1] rfl rfl ?_
                    exact cT_lookAtLimits_107 hq H_reckon H_giveUp H_2 hk h k
                  · rw [if_neg c16] at hk
                    refine zi_l rfl rfl rfl ?_
                    refine zc_gf (c := 4) (k := 1) (o := 3) (n := 10) (t := 10) h rfl rfl rfl (by decide) (by decide) ?_
                    refine zi_l rfl rfl rfl ?_
                    refine zc_gv (o := 3) (n := 10) (v := .int (m14.1.1 4 6 0)) h rfl rfl rfl (by decide) (by decide) rfl ?_
                    refine zi_l rfl rfl rfl ?_
                    by_cases q17 : i6 < m14.2.2.1
                    case neg => rw [if_neg q17] at hk; cases hk
                    rw [if_pos q17] at hk
                    refine zc_gS (v := .int (m14.1.1 3 1 i6)) h rfl rfl rfl q17 rfl ?_
                    refine zi_a (st' := .int 3 :: _) rfl rfl rfl ?_
                    cases c18 : cF_addAlarm (m14.1.1 4 6 0) (m14.1.1 3 1 i6) (3 : Int32) m14 with
                    | none => rw [c18] at hk; cases hk
                    | some q1 =>
                      obtain ⟨v19, m20⟩ := q1
                      rw [c18] at hk
                      dsimp only at hk
                      refine zi_v rfl rfl rfl (h.sh (o := 10) (c := 0) (n := 6) (by decide)) rfl rfl rfl (zOk.deep (cT_addAlarm (q := 0) (by omega) c18 h (fun w h => ?_)) (by omega))
                      refine zi_l rfl rfl rfl ?_
                      refine zi_l rfl rfl rfl ?_
                      by_cases q21 : i6 < m20.2.2.1
                      case neg => rw [if_neg q21] at hk; cases hk
                      rw [if_pos q21] at hk
                      refine zc_gS (v := cr sa (m20.1.2.2 3 5 i6)) h rfl rfl rfl q21 rfl ?_
                      cases c22 : g_giveUp (m20.1.2.2 3 5 i6) m20 with
                      | none => rw [c22] at hk; cases hk
                      | some q1 =>
                        obtain ⟨v23, m24⟩ := q1
                        rw [c22] at hk
                        dsimp only at hk
                        refine zi_v rfl rfl rfl (h.sh (o := 3) (c := 4) (n := 10) (by decide)) rfl rfl (by generalize (m20.1.2.2 3 5 i6) = o0; cases o0 <;> rfl) (zOk.deep (H_giveUp c22 h (fun w h => ?_)) (by omega))
                        refine zi_a rfl rfl rfl ?_
                        refine zi_l rfl rfl rfl ?_
                        refine zi_a (st' := .int 2 :: _) rfl rfl rfl ?_
                        by_cases q25 : i6 < m24.2.2.1
                        case neg => rw [if_neg q25] at hk; cases hk
                        rw [if_pos q25] at hk
                        refine zc_pS1 h rfl rfl rfl q25 rfl ⟨rfl, rfl, Or.inl rfl⟩ (fun w h => ?_)
                        generalize cu1 m24 3 7 i6 (2 : Int32) = m26 at h hk
                        rw [cPut_eq] at hk
                        refine zk_sub [0, 1] rfl rfl ?_
                        exact cT_lookAtLimits_107 hq H_reckon H_giveUp H_2 hk h k
            · rw [if_neg c10] at hk
              refine zi_go rfl rfl rfl (tgt := 107) (by decide) ?_
              refine zk_sub [0, 1] rfl rfl ?_
              exact cT_lookAtLimits_107 hq H_reckon H_giveUp H_2 hk h k
def cF_lookAtLimits_2 (g_reckon : Option Nat → cS → Option (Int64 × cS)) (g_giveUp : Option Nat → cS → Option (Int32 × cS)) : Nat → Int32 → cS → Option (Unit × cS)
  | 0 => fun _ _ => none
  | n + 1 => fun l1 σ => cF_lookAtLimits_2b g_reckon g_giveUp (cF_lookAtLimits_2 g_reckon g_giveUp n) l1 σ
theorem cT_lookAtLimits_2 {S : zS} {q : Nat} {w0 : zW} {Post : Option Value → zW → Prop} {b0 : Nat} {pa sa : Nat → Nat} {σ2 : cS} {v : Unit} {g_reckon : Option Nat → cS → Option (Int64 × cS)} {g_giveUp : Option Nat → cS → Option (Int32 × cS)} (hq : 1 ≤ q) (H_reckon : ∀ {x1 : Option Nat} {ν ν2 : cS} {y : Int64} {w : zW} {P : Option Value → zW → Prop}, g_reckon x1 ν = some (y, ν2) → cW b0 w0 pa sa ν w → (∀ w2, cW b0 w0 pa sa ν2 w2 → P (some (.long y)) w2) → zOk S q 33 0 (lv_args 0 [.ref (b0 + 3), cr pa x1]) [] w P) (H_giveUp : ∀ {x1 : Option Nat} {ν ν2 : cS} {y : Int32} {w : zW} {P : Option Value → zW → Prop}, g_giveUp x1 ν = some (y, ν2) → cW b0 w0 pa sa ν w → (∀ w2, cW b0 w0 pa sa ν2 w2 → P (some (.int y)) w2) → zOk S q 36 0 (lv_args 0 [.ref (b0 + 3), cr sa x1]) [] w P) (k : ∀ w2, cW b0 w0 pa sa σ2 w2 → Post none w2) : ∀ (n : Nat) (l1 : Int32) (σ : cS) (w : zW), cF_lookAtLimits_2 g_reckon g_giveUp n l1 σ = some (v, σ2) → cW b0 w0 pa sa σ w → zOk S (q + 1) 32 2 [(0, .ref (b0 + 3)), (1, .int l1)] [] w Post := by
  intro n
  induction n with
  | zero => intro l1 σ w hk; cases hk
  | succ n ih => intro l1 σ w hk h; exact cT_lookAtLimits_2b hq H_reckon H_giveUp ih hk h k
def cF_lookAtLimits (g_reckon : Option Nat → cS → Option (Int64 × cS)) (g_giveUp : Option Nat → cS → Option (Int32 × cS)) (σ : cS) : Option (Unit × cS) :=
  cF_lookAtLimits_2 g_reckon g_giveUp 510 (0 : Int32) σ
theorem cT_lookAtLimits {S : zS} {q : Nat} {w w0 : zW} {Post : Option Value → zW → Prop} {b0 : Nat} {pa sa : Nat → Nat} {σ σ2 : cS} {v : Unit} {g_reckon : Option Nat → cS → Option (Int64 × cS)} {g_giveUp : Option Nat → cS → Option (Int32 × cS)} (hq : 1 ≤ q) (H_reckon : ∀ {x1 : Option Nat} {ν ν2 : cS} {y : Int64} {w : zW} {P : Option Value → zW → Prop}, g_reckon x1 ν = some (y, ν2) → cW b0 w0 pa sa ν w → (∀ w2, cW b0 w0 pa sa ν2 w2 → P (some (.long y)) w2) → zOk S q 33 0 (lv_args 0 [.ref (b0 + 3), cr pa x1]) [] w P) (H_giveUp : ∀ {x1 : Option Nat} {ν ν2 : cS} {y : Int32} {w : zW} {P : Option Value → zW → Prop}, g_giveUp x1 ν = some (y, ν2) → cW b0 w0 pa sa ν w → (∀ w2, cW b0 w0 pa sa ν2 w2 → P (some (.int y)) w2) → zOk S q 36 0 (lv_args 0 [.ref (b0 + 3), cr sa x1]) [] w P) (hk : cF_lookAtLimits g_reckon g_giveUp σ = some (v, σ2)) (h : cW b0 w0 pa sa σ w) (k : ∀ w2, cW b0 w0 pa sa σ2 w2 → Post none w2) : zOk S (q + 1) 32 0 (lv_args 0 [.ref (b0 + 3)]) [] w Post := by
  unfold cF_lookAtLimits at hk
  refine zi_a (st' := .int 0 :: _) rfl rfl rfl ?_
  refine zi_l rfl rfl rfl ?_
  exact cT_lookAtLimits_2 hq H_reckon H_giveUp k 510 _ _ _ hk h
def cF_doSecond_42 (g_reckon : Option Nat → cS → Option (Int64 × cS)) (g_giveUp : Option Nat → cS → Option (Int32 × cS)) (g_goOn : Option Nat → cS → Option (Int32 × cS)) (σ : cS) : Option (Unit × cS) :=
  cPut (cu1 σ 4 8 0 (0 : Int32)) fun m1 => cPut (cu1 m1 4 6 0 ((m1.1.1 4 6 0) + (1 : Int32))) fun m2 => some ((), m2)
theorem cT_doSecond_42 {S : zS} {q : Nat} {w w0 : zW} {Post : Option Value → zW → Prop} {b0 : Nat} {pa sa : Nat → Nat} {σ σ2 : cS} {v : Unit} {g_reckon : Option Nat → cS → Option (Int64 × cS)} {g_giveUp : Option Nat → cS → Option (Int32 × cS)} {g_goOn : Option Nat → cS → Option (Int32 × cS)} (hq : 1 ≤ q) (H_reckon : ∀ {x1 : Option Nat} {ν ν2 : cS} {y : Int64} {w : zW} {P : Option Value → zW → Prop}, g_reckon x1 ν = some (y, ν2) → cW b0 w0 pa sa ν w → (∀ w2, cW b0 w0 pa sa ν2 w2 → P (some (.long y)) w2) → zOk S q 33 0 (lv_args 0 [.ref (b0 + 3), cr pa x1]) [] w P) (H_giveUp : ∀ {x1 : Option Nat} {ν ν2 : cS} {y : Int32} {w : zW} {P : Option Value → zW → Prop}, g_giveUp x1 ν = some (y, ν2) → cW b0 w0 pa sa ν w → (∀ w2, cW b0 w0 pa sa ν2 w2 → P (some (.int y)) w2) → zOk S q 36 0 (lv_args 0 [.ref (b0 + 3), cr sa x1]) [] w P) (H_goOn : ∀ {x1 : Option Nat} {ν ν2 : cS} {y : Int32} {w : zW} {P : Option Value → zW → Prop}, g_goOn x1 ν = some (y, ν2) → cW b0 w0 pa sa ν w → (∀ w2, cW b0 w0 pa sa ν2 w2 → P (some (.int y)) w2) → zOk S q 38 0 (lv_args 0 [.ref (b0 + 3), cr sa x1]) [] w P) (hk : cF_doSecond_42 g_reckon g_giveUp g_goOn σ = some (v, σ2)) (h : cW b0 w0 pa sa σ w) (k : ∀ w2, cW b0 w0 pa sa σ2 w2 → Post none w2) : zOk S (q + 2) 31 42 [(0, .ref (b0 + 3))] [] w Post := by
  unfold cF_doSecond_42 at hk
  refine zi_l rfl rfl rfl ?_
  refine zi_a (st' := .int 0 :: _) rfl rfl rfl ?_
  refine zc_pv (o := 3) (n := 10) h rfl rfl rfl (by decide) (by decide) rfl ⟨rfl, rfl, Or.inl rfl⟩ (fun w h => ?_)
  generalize cu1 σ 4 8 0 (0 : Int32) = m1 at h hk
  rw [cPut_eq] at hk
  refine zi_l rfl rfl rfl ?_
  refine zi_a rfl rfl rfl ?_
  refine zc_gv (o := 3) (n := 10) (v := .int (m1.1.1 4 6 0)) h rfl rfl rfl (by decide) (by decide) rfl ?_
  refine zi_a (st' := .int 1 :: _) rfl rfl rfl ?_
  refine zi_a rfl rfl rfl ?_
  refine zc_pv (o := 3) (n := 10) h rfl rfl rfl (by decide) (by decide) rfl ⟨rfl, rfl, Or.inl rfl⟩ (fun w h => ?_)
  generalize cu1 m1 4 6 0 ((m1.1.1 4 6 0) + (1 : Int32)) = m2 at h hk
  rw [cPut_eq] at hk
  cases hk
  exact zi_ret rfl rfl rfl (k w h)
def cF_doSecond (g_reckon : Option Nat → cS → Option (Int64 × cS)) (g_giveUp : Option Nat → cS → Option (Int32 × cS)) (g_goOn : Option Nat → cS → Option (Int32 × cS)) (σ : cS) : Option (Unit × cS) :=
  cPut (cu1 σ 4 7 0 (0 : Int32)) fun m1 => match cF_lookAtLimits g_reckon g_giveUp m1 with | none => none | some (v3, m4) => match g_goOn (m4.1.2.2 4 4 0) m4 with | none => none | some (v6, m7) => if (m7.1.1 4 8 0) = 0 then (if v6 = 0 then (cF_doSecond_42 g_reckon g_giveUp g_goOn  m7) else (cPut (cu1 m7 4 5 0 (1 : Int32)) fun m10 => cF_doSecond_42 g_reckon g_giveUp g_goOn  m10)) else (cPut (cu1 m7 4 5 0 (2 : Int32)) fun m11 => cF_doSecond_42 g_reckon g_giveUp g_goOn  m11)
theorem cT_doSecond {S : zS} {q : Nat} {w w0 : zW} {Post : Option Value → zW → Prop} {b0 : Nat} {pa sa : Nat → Nat} {σ σ2 : cS} {v : Unit} {g_reckon : Option Nat → cS → Option (Int64 × cS)} {g_giveUp : Option Nat → cS → Option (Int32 × cS)} {g_goOn : Option Nat → cS → Option (Int32 × cS)} (hq : 1 ≤ q) (H_reckon : ∀ {x1 : Option Nat} {ν ν2 : cS} {y : Int64} {w : zW} {P : Option Value → zW → Prop}, g_reckon x1 ν = some (y, ν2) → cW b0 w0 pa sa ν w → (∀ w2, cW b0 w0 pa sa ν2 w2 → P (some (.long y)) w2) → zOk S q 33 0 (lv_args 0 [.ref (b0 + 3), cr pa x1]) [] w P) (H_giveUp : ∀ {x1 : Option Nat} {ν ν2 : cS} {y : Int32} {w : zW} {P : Option Value → zW → Prop}, g_giveUp x1 ν = some (y, ν2) → cW b0 w0 pa sa ν w → (∀ w2, cW b0 w0 pa sa ν2 w2 → P (some (.int y)) w2) → zOk S q 36 0 (lv_args 0 [.ref (b0 + 3), cr sa x1]) [] w P) (H_goOn : ∀ {x1 : Option Nat} {ν ν2 : cS} {y : Int32} {w : zW} {P : Option Value → zW → Prop}, g_goOn x1 ν = some (y, ν2) → cW b0 w0 pa sa ν w → (∀ w2, cW b0 w0 pa sa ν2 w2 → P (some (.int y)) w2) → zOk S q 38 0 (lv_args 0 [.ref (b0 + 3), cr sa x1]) [] w P) (hk : cF_doSecond g_reckon g_giveUp g_goOn σ = some (v, σ2)) (h : cW b0 w0 pa sa σ w) (k : ∀ w2, cW b0 w0 pa sa σ2 w2 → Post none w2) : zOk S (q + 2) 31 0 (lv_args 0 [.ref (b0 + 3)]) [] w Post := by
  unfold cF_doSecond at hk
  refine zi_l rfl rfl rfl ?_
  refine zi_a (st' := .int 0 :: _) rfl rfl rfl ?_
  refine zc_pv (o := 3) (n := 10) h rfl rfl rfl (by decide) (by decide) rfl ⟨rfl, rfl, Or.inl rfl⟩ (fun w h => ?_)
  generalize cu1 σ 4 7 0 (0 : Int32) = m1 at h hk
  rw [cPut_eq] at hk
  refine zi_l rfl rfl rfl ?_
  cases c2 : cF_lookAtLimits g_reckon g_giveUp m1 with
  | none => rw [c2] at hk; cases hk
  | some q1 =>
    obtain ⟨v3, m4⟩ := q1
    rw [c2] at hk
    dsimp only at hk
    refine zi_v rfl rfl rfl (h.sh (o := 3) (c := 4) (n := 10) (by decide)) rfl rfl rfl (zOk.deep (cT_lookAtLimits (q := q) (by omega) H_reckon H_giveUp c2 h (fun w h => ?_)) (by omega))
    refine zi_l rfl rfl rfl ?_
    refine zi_l rfl rfl rfl ?_
    refine zc_gv (o := 3) (n := 10) (v := cr sa (m4.1.2.2 4 4 0)) h rfl rfl rfl (by decide) (by decide) rfl ?_
    cases c5 : g_goOn (m4.1.2.2 4 4 0) m4 with
    | none => rw [c5] at hk; cases hk
    | some q1 =>
      obtain ⟨v6, m7⟩ := q1
      rw [c5] at hk
      dsimp only at hk
      refine zi_v rfl rfl rfl (h.sh (o := 3) (c := 4) (n := 10) (by decide)) rfl rfl (by generalize (m4.1.2.2 4 4 0) = o0; cases o0 <;> rfl) (zOk.deep (H_goOn c5 h (fun w h => ?_)) (by omega))
      refine zi_l rfl rfl rfl ?_
      refine zi_l rfl rfl rfl ?_
      refine zc_gv (o := 3) (n := 10) (v := .int (m7.1.1 4 8 0)) h rfl rfl rfl (by decide) (by decide) rfl ?_
      refine zi_ifd rfl rfl rfl (tgt := 33) (by decide) (fun c8 => ?_) (fun c8 => ?_)
      · rw [if_pos c8] at hk
        refine zi_l rfl rfl rfl ?_
        refine zi_ifd rfl rfl rfl (tgt := 42) (by decide) (fun c9 => ?_) (fun c9 => ?_)
        · rw [if_pos c9] at hk
          refine zk_sub [0] rfl rfl ?_
          exact cT_doSecond_42 hq H_reckon H_giveUp H_goOn hk h k
        · rw [if_neg c9] at hk
          refine zi_l rfl rfl rfl ?_
          refine zi_a (st' := .int 1 :: _) rfl rfl rfl ?_
          refine zc_pv (o := 3) (n := 10) h rfl rfl rfl (by decide) (by decide) rfl ⟨rfl, rfl, Or.inl rfl⟩ (fun w h => ?_)
          generalize cu1 m7 4 5 0 (1 : Int32) = m10 at h hk
          rw [cPut_eq] at hk
          refine zk_sub [0] rfl rfl ?_
          exact cT_doSecond_42 hq H_reckon H_giveUp H_goOn hk h k
      · rw [if_neg c8] at hk
        refine zi_l rfl rfl rfl ?_
        refine zi_a (st' := .int 2 :: _) rfl rfl rfl ?_
        refine zc_pv (o := 3) (n := 10) h rfl rfl rfl (by decide) (by decide) rfl ⟨rfl, rfl, Or.inl rfl⟩ (fun w h => ?_)
        generalize cu1 m7 4 5 0 (2 : Int32) = m11 at h hk
        rw [cPut_eq] at hk
        refine zi_go rfl rfl rfl (tgt := 42) (by decide) ?_
        refine zk_sub [0] rfl rfl ?_
        exact cT_doSecond_42 hq H_reckon H_giveUp H_goOn hk h k
