/-! the class decompiled: functions over its state, and that its code runs them (by wip/whole/gen5.py) -/
def cF_nodeStandingStill_65 (k_13 : Int32 → Int32 → Int32 → cS → Option (Int32 × cS)) (l1 : Int32) (l2 : Int32) (l3 : Int32) (σ : cS) : Option (Int32 × cS) :=
  k_13 l1 l2 (l3 + Int32.ofInt 1) σ
theorem cT_nodeStandingStill_65 {S : zS} {q : Nat} {w w0 : zW} {Post : Option Value → zW → Prop} {b0 : Nat} {pa sa : Nat → Nat} {σ σ2 : cS} {v : Int32} {k_13 : Int32 → Int32 → Int32 → cS → Option (Int32 × cS)} {l1 : Int32} {l2 : Int32} {l3 : Int32} (hq : 2 ≤ q) (H_13 : ∀ (l1 : Int32) (l2 : Int32) (l3 : Int32) (ν : cS) (w : zW), k_13 l1 l2 l3 ν = some (v, σ2) → cW b0 w0 pa sa ν w → zOk S (q + 1) 53 13 [(0, .ref (b0 + 3)), (1, .int l1), (2, .int l2), (3, .int l3)] [] w Post) (hk : cF_nodeStandingStill_65 k_13 l1 l2 l3 σ = some (v, σ2)) (h : cW b0 w0 pa sa σ w) (k : ∀ w2, cW b0 w0 pa sa σ2 w2 → Post (some (.int v)) w2) : zOk S (q + 1) 53 65 [(0, .ref (b0 + 3)), (1, .int l1), (2, .int l2), (3, .int l3)] [] w Post := by
  unfold cF_nodeStandingStill_65 at hk
  refine zi_l rfl rfl rfl ?_
  refine zi_go rfl rfl rfl (tgt := 13) (by decide) ?_
  exact H_13 _ _ _ _ _ hk h
def cF_nodeStandingStill_13b (k_13 : Int32 → Int32 → Int32 → cS → Option (Int32 × cS)) (l1 : Int32) (l2 : Int32) (l3 : Int32) (σ : cS) : Option (Int32 × cS) :=
  if (σ.1.1 4 3 0) ≤ l3 then (some ((-1 : Int32), σ)) else (if (Int32.ofNat 500) ≤ l3 then (some ((-1 : Int32), σ)) else (if zix l3 500 then match (σ.1.2.2 20 0 (l3).toNatClampNeg) with | none => (cF_nodeStandingStill_65 k_13 l1 l2 l3 σ) | some i5 => (if i5 < σ.2.2.1 then match cF_standsStill i5 σ with | none => none | some (v8, m9) => if v8 = 0 then (cF_nodeStandingStill_65 k_13 l1 l2 l3 m9) else (if ¬ l2 = l1 then (cF_nodeStandingStill_65 k_13 l1 (l2 + Int32.ofInt 1) l3 m9) else (if i5 < m9.2.2.1 then some ((m9.1.1 3 1 i5), m9) else none)) else none) else none))
theorem cT_nodeStandingStill_13b {S : zS} {q : Nat} {w w0 : zW} {Post : Option Value → zW → Prop} {b0 : Nat} {pa sa : Nat → Nat} {σ σ2 : cS} {v : Int32} {k_13 : Int32 → Int32 → Int32 → cS → Option (Int32 × cS)} {l1 : Int32} {l2 : Int32} {l3 : Int32} (hq : 2 ≤ q) (H_13 : ∀ (l1 : Int32) (l2 : Int32) (l3 : Int32) (ν : cS) (w : zW), k_13 l1 l2 l3 ν = some (v, σ2) → cW b0 w0 pa sa ν w → zOk S (q + 1) 53 13 [(0, .ref (b0 + 3)), (1, .int l1), (2, .int l2), (3, .int l3)] [] w Post) (hk : cF_nodeStandingStill_13b k_13 l1 l2 l3 σ = some (v, σ2)) (h : cW b0 w0 pa sa σ w) (k : ∀ w2, cW b0 w0 pa sa σ2 w2 → Post (some (.int v)) w2) : zOk S (q + 1) 53 13 [(0, .ref (b0 + 3)), (1, .int l1), (2, .int l2), (3, .int l3)] [] w Post := by
  unfold cF_nodeStandingStill_13b at hk
  refine zi_l rfl rfl rfl ?_
  refine zi_l rfl rfl rfl ?_
  refine zc_gv (o := 3) (n := 10) (v := .int (σ.1.1 4 3 0)) h rfl rfl rfl (by decide) (by decide) rfl ?_
  refine zi_ifd rfl rfl rfl (tgt := 71) (by decide) (fun c1 => ?_) (fun c1 => ?_)
  · rw [if_pos c1] at hk
    refine zi_a (st' := .int (-1) :: _) rfl rfl rfl ?_
    cases hk
    exact zi_ri rfl rfl (k w h)
  · rw [if_neg c1] at hk
    refine zi_l rfl rfl rfl ?_
    refine zi_l rfl rfl rfl ?_
    refine zc_gf (c := 4) (k := 2) (o := 3) (n := 10) (t := 15) h rfl rfl rfl (by decide) (by decide) ?_
    refine zc_len (o := 15) (c := 104) (n := 500) h rfl (by decide) rfl ?_
    refine zi_ifd rfl rfl rfl (tgt := 71) (by decide) (fun c2 => ?_) (fun c2 => ?_)
    · rw [if_pos c2] at hk
      refine zi_a (st' := .int (-1) :: _) rfl rfl rfl ?_
      cases hk
      exact zi_ri rfl rfl (k w h)
    · rw [if_neg c2] at hk
      refine zi_l rfl rfl rfl ?_
      refine zc_gf (c := 4) (k := 2) (o := 3) (n := 10) (t := 15) h rfl rfl rfl (by decide) (by decide) ?_
      refine zi_l rfl rfl rfl ?_
      by_cases q3 : zix l3 500
      case neg => rw [if_neg q3] at hk; cases hk
      rw [if_pos q3] at hk
      refine zc_ls h rfl q3 ?_
      cases e4 : (σ.1.2.2 20 0 (l3).toNatClampNeg) with
      | none =>
        rw [e4] at hk
        try rw [e4]
        dsimp only at hk
        refine zi_l rfl rfl rfl ?_
        refine zi_l rfl rfl rfl ?_
        refine zi_go rfl rfl rfl (tgt := 65) (by decide) ?_
        refine zk_sub [0, 1, 2, 3] rfl rfl ?_
        exact cT_nodeStandingStill_65 hq H_13 hk h k
      | some i5 =>
        rw [e4] at hk
        try rw [e4]
        dsimp only at hk
        refine zi_l rfl rfl rfl ?_
        refine zi_l rfl rfl rfl ?_
        refine zi_stay rfl rfl rfl (tgt := 65) (by decide) ?_
        refine zi_l rfl rfl rfl ?_
        by_cases q6 : i5 < σ.2.2.1
        case neg => rw [if_neg q6] at hk; cases hk
        rw [if_pos q6] at hk
        cases c7 : cF_standsStill i5 σ with
        | none => rw [c7] at hk; cases hk
        | some q1 =>
          obtain ⟨v8, m9⟩ := q1
          rw [c7] at hk
          dsimp only at hk
          refine zi_v rfl rfl rfl (h.shS q6) rfl rfl rfl (zOk.deep (cT_standsStill (q := 1) (by omega) c7 h (fun w h => ?_)) (by omega))
          refine zi_ifd rfl rfl rfl (tgt := 65) (by decide) (fun c10 => ?_) (fun c10 => ?_)
          · rw [if_pos c10] at hk
            refine zk_sub [0, 1, 2, 3] rfl rfl ?_
            exact cT_nodeStandingStill_65 hq H_13 hk h k
          · rw [if_neg c10] at hk
            refine zi_l rfl rfl rfl ?_
            refine zi_l rfl rfl rfl ?_
            refine zi_ifd rfl rfl rfl (tgt := 62) (by decide) (fun c11 => ?_) (fun c11 => ?_)
            · rw [if_pos c11] at hk
              refine zi_l rfl rfl rfl ?_
              refine zk_sub [0, 1, 2, 3] rfl rfl ?_
              exact cT_nodeStandingStill_65 hq H_13 hk h k
            · rw [if_neg c11] at hk
              refine zi_l rfl rfl rfl ?_
              by_cases q12 : i5 < m9.2.2.1
              case neg => rw [if_neg q12] at hk; cases hk
              rw [if_pos q12] at hk
              refine zc_gS (v := .int (m9.1.1 3 1 i5)) h rfl rfl rfl q12 rfl ?_
              cases hk
              exact zi_ri rfl rfl (k w h)
def cF_nodeStandingStill_13 : Nat → Int32 → Int32 → Int32 → cS → Option (Int32 × cS)
  | 0 => fun _ _ _ _ => none
  | n + 1 => fun l1 l2 l3 σ => cF_nodeStandingStill_13b (cF_nodeStandingStill_13 n) l1 l2 l3 σ
theorem cT_nodeStandingStill_13 {S : zS} {q : Nat} {w0 : zW} {Post : Option Value → zW → Prop} {b0 : Nat} {pa sa : Nat → Nat} {σ2 : cS} {v : Int32} (hq : 2 ≤ q) (k : ∀ w2, cW b0 w0 pa sa σ2 w2 → Post (some (.int v)) w2) : ∀ (n : Nat) (l1 : Int32) (l2 : Int32) (l3 : Int32) (σ : cS) (w : zW), cF_nodeStandingStill_13 n l1 l2 l3 σ = some (v, σ2) → cW b0 w0 pa sa σ w → zOk S (q + 1) 53 13 [(0, .ref (b0 + 3)), (1, .int l1), (2, .int l2), (3, .int l3)] [] w Post := by
  intro n
  induction n with
  | zero => intro l1 l2 l3 σ w hk; cases hk
  | succ n ih => intro l1 l2 l3 σ w hk h; exact cT_nodeStandingStill_13b hq ih hk h k
def cF_nodeStandingStill (a1 : Int32) (σ : cS) : Option (Int32 × cS) :=
  match cF_isLive  σ with | none => none | some (v2, m3) => if ¬ v2 = 0 then (cF_nodeStandingStill_13  510 a1 (0 : Int32) (0 : Int32) m3) else (some ((-1 : Int32), m3))
theorem cT_nodeStandingStill {S : zS} {q : Nat} {w w0 : zW} {Post : Option Value → zW → Prop} {b0 : Nat} {pa sa : Nat → Nat} {σ σ2 : cS} {v : Int32} {a1 : Int32} (hq : 2 ≤ q) (hk : cF_nodeStandingStill a1 σ = some (v, σ2)) (h : cW b0 w0 pa sa σ w) (k : ∀ w2, cW b0 w0 pa sa σ2 w2 → Post (some (.int v)) w2) : zOk S (q + 1) 53 0 (lv_args 0 [.ref (b0 + 3), .int a1]) [] w Post := by
  unfold cF_nodeStandingStill at hk
  refine zi_l rfl rfl rfl ?_
  cases c1 : cF_isLive  σ with
  | none => rw [c1] at hk; cases hk
  | some q1 =>
    obtain ⟨v2, m3⟩ := q1
    rw [c1] at hk
    dsimp only at hk
    refine zi_v rfl rfl rfl (h.sh (o := 3) (c := 4) (n := 10) (by decide)) rfl rfl rfl (zOk.deep (cT_isLive (q := 0) (by omega) c1 h (fun w h => ?_)) (by omega))
    refine zi_ifd rfl rfl rfl (tgt := 9) (by decide) (fun c4 => ?_) (fun c4 => ?_)
    · rw [if_pos c4] at hk
      refine zi_a (st' := .int 0 :: _) rfl rfl rfl ?_
      refine zi_l rfl rfl rfl ?_
      refine zi_a (st' := .int 0 :: _) rfl rfl rfl ?_
      refine zi_l rfl rfl rfl ?_
      exact cT_nodeStandingStill_13 hq k 510 _ _ _ _ _ hk h
    · rw [if_neg c4] at hk
      refine zi_a (st' := .int (-1) :: _) rfl rfl rfl ?_
      cases hk
      exact zi_ri rfl rfl (k w h)
def cF_answerFirstAsk_90 (k_11 : Int64 → Int32 → cS → Option (Int32 × cS)) (l1 : Int64) (l3 : Int32) (σ : cS) : Option (Int32 × cS) :=
  k_11 l1 (l3 + Int32.ofInt 1) σ
theorem cT_answerFirstAsk_90 {S : zS} {q : Nat} {w w0 : zW} {Post : Option Value → zW → Prop} {b0 : Nat} {pa sa : Nat → Nat} {σ σ2 : cS} {v : Int32} {k_11 : Int64 → Int32 → cS → Option (Int32 × cS)} {l1 : Int64} {l3 : Int32} (hq : 2 ≤ q) (H_11 : ∀ (l1 : Int64) (l3 : Int32) (ν : cS) (w : zW), k_11 l1 l3 ν = some (v, σ2) → cW b0 w0 pa sa ν w → zOk S (q + 1) 59 11 [(0, .ref (b0 + 3)), (1, .long l1), (3, .int l3)] [] w Post) (hk : cF_answerFirstAsk_90 k_11 l1 l3 σ = some (v, σ2)) (h : cW b0 w0 pa sa σ w) (k : ∀ w2, cW b0 w0 pa sa σ2 w2 → Post (some (.int v)) w2) : zOk S (q + 1) 59 90 [(0, .ref (b0 + 3)), (1, .long l1), (3, .int l3)] [] w Post := by
  unfold cF_answerFirstAsk_90 at hk
  refine zi_l rfl rfl rfl ?_
  refine zi_go rfl rfl rfl (tgt := 11) (by decide) ?_
  exact H_11 _ _ _ _ hk h
def cF_answerFirstAsk_11b (k_11 : Int64 → Int32 → cS → Option (Int32 × cS)) (l1 : Int64) (l3 : Int32) (σ : cS) : Option (Int32 × cS) :=
  if (σ.1.1 4 3 0) ≤ l3 then (some ((0 : Int32), σ)) else (if (Int32.ofNat 500) ≤ l3 then (some ((0 : Int32), σ)) else (if zix l3 500 then match (σ.1.2.2 20 0 (l3).toNatClampNeg) with | none => (cF_answerFirstAsk_90 k_11 l1 l3 σ) | some i5 => (if i5 < σ.2.2.1 then if ¬ (σ.1.1 3 0 i5) = (20 : Int32) then (cF_answerFirstAsk_90 k_11 l1 l3 σ) else (if i5 < σ.2.2.1 then match cF_standsStill i5 σ with | none => none | some (v10, m11) => if v10 = 0 then (cF_answerFirstAsk_90 k_11 l1 l3 m11) else (if i5 < m11.2.2.1 then if ¬ (m11.1.1 3 12 i5) = 0 then (cF_answerFirstAsk_90 k_11 l1 l3 m11) else (if i5 < m11.2.2.1 then cPut (cu1 m11 3 12 i5 (1 : Int32)) fun m16 => if i5 < m16.2.2.1 then cPut (cput m16 12 (m16.1.1 3 2 i5) l1) fun m18 => if (cputb (m16.1.1 3 2 i5)) = 0 ∨ (cputb (m16.1.1 3 2 i5)) = 1 then some ((cputb (m16.1.1 3 2 i5)), m18) else none else none else none) else none) else none) else none) else none))
theorem cT_answerFirstAsk_11b {S : zS} {q : Nat} {w w0 : zW} {Post : Option Value → zW → Prop} {b0 : Nat} {pa sa : Nat → Nat} {σ σ2 : cS} {v : Int32} {k_11 : Int64 → Int32 → cS → Option (Int32 × cS)} {l1 : Int64} {l3 : Int32} (hq : 2 ≤ q) (H_11 : ∀ (l1 : Int64) (l3 : Int32) (ν : cS) (w : zW), k_11 l1 l3 ν = some (v, σ2) → cW b0 w0 pa sa ν w → zOk S (q + 1) 59 11 [(0, .ref (b0 + 3)), (1, .long l1), (3, .int l3)] [] w Post) (hk : cF_answerFirstAsk_11b k_11 l1 l3 σ = some (v, σ2)) (h : cW b0 w0 pa sa σ w) (k : ∀ w2, cW b0 w0 pa sa σ2 w2 → Post (some (.int v)) w2) : zOk S (q + 1) 59 11 [(0, .ref (b0 + 3)), (1, .long l1), (3, .int l3)] [] w Post := by
  unfold cF_answerFirstAsk_11b at hk
  refine zi_l rfl rfl rfl ?_
  refine zi_l rfl rfl rfl ?_
  refine zc_gv (o := 3) (n := 10) (v := .int (σ.1.1 4 3 0)) h rfl rfl rfl (by decide) (by decide) rfl ?_
  refine zi_ifd rfl rfl rfl (tgt := 96) (by decide) (fun c1 => ?_) (fun c1 => ?_)
  · rw [if_pos c1] at hk
    refine zi_a (st' := .int 0 :: _) rfl rfl rfl ?_
    cases hk
    exact zi_rz rfl rfl (Or.inl rfl) (k w h)
  · rw [if_neg c1] at hk
    refine zi_l rfl rfl rfl ?_
    refine zi_l rfl rfl rfl ?_
    refine zc_gf (c := 4) (k := 2) (o := 3) (n := 10) (t := 15) h rfl rfl rfl (by decide) (by decide) ?_
    refine zc_len (o := 15) (c := 104) (n := 500) h rfl (by decide) rfl ?_
    refine zi_ifd rfl rfl rfl (tgt := 96) (by decide) (fun c2 => ?_) (fun c2 => ?_)
    · rw [if_pos c2] at hk
      refine zi_a (st' := .int 0 :: _) rfl rfl rfl ?_
      cases hk
      exact zi_rz rfl rfl (Or.inl rfl) (k w h)
    · rw [if_neg c2] at hk
      refine zi_l rfl rfl rfl ?_
      refine zc_gf (c := 4) (k := 2) (o := 3) (n := 10) (t := 15) h rfl rfl rfl (by decide) (by decide) ?_
      refine zi_l rfl rfl rfl ?_
      by_cases q3 : zix l3 500
      case neg => rw [if_neg q3] at hk; cases hk
      rw [if_pos q3] at hk
      refine zc_ls h rfl q3 ?_
      cases e4 : (σ.1.2.2 20 0 (l3).toNatClampNeg) with
      | none =>
        rw [e4] at hk
        try rw [e4]
        dsimp only at hk
        refine zi_l rfl rfl rfl ?_
        refine zi_l rfl rfl rfl ?_
        refine zi_go rfl rfl rfl (tgt := 90) (by decide) ?_
        refine zk_sub [0, 1, 2] rfl rfl ?_
        exact cT_answerFirstAsk_90 hq H_11 hk h k
      | some i5 =>
        rw [e4] at hk
        try rw [e4]
        dsimp only at hk
        refine zi_l rfl rfl rfl ?_
        refine zi_l rfl rfl rfl ?_
        refine zi_stay rfl rfl rfl (tgt := 90) (by decide) ?_
        refine zi_l rfl rfl rfl ?_
        by_cases q6 : i5 < σ.2.2.1
        case neg => rw [if_neg q6] at hk; cases hk
        rw [if_pos q6] at hk
        refine zc_gS (v := .int (σ.1.1 3 0 i5)) h rfl rfl rfl q6 rfl ?_
        refine zi_a (st' := .int 20 :: _) rfl rfl rfl ?_
        refine zi_ifd rfl rfl rfl (tgt := 90) (by decide) (fun c7 => ?_) (fun c7 => ?_)
        · rw [if_pos c7] at hk
          refine zk_sub [0, 1, 2] rfl rfl ?_
          exact cT_answerFirstAsk_90 hq H_11 hk h k
        · rw [if_neg c7] at hk
          refine zi_l rfl rfl rfl ?_
          by_cases q8 : i5 < σ.2.2.1
          case neg => rw [if_neg q8] at hk; cases hk
          rw [if_pos q8] at hk
          cases c9 : cF_standsStill i5 σ with
          | none => rw [c9] at hk; cases hk
          | some q1 =>
            obtain ⟨v10, m11⟩ := q1
            rw [c9] at hk
            dsimp only at hk
            refine zi_v rfl rfl rfl (h.shS q8) rfl rfl rfl (zOk.deep (cT_standsStill (q := 1) (by omega) c9 h (fun w h => ?_)) (by omega))
            refine zi_ifd rfl rfl rfl (tgt := 90) (by decide) (fun c12 => ?_) (fun c12 => ?_)
            · rw [if_pos c12] at hk
              refine zk_sub [0, 1, 2] rfl rfl ?_
              exact cT_answerFirstAsk_90 hq H_11 hk h k
            · rw [if_neg c12] at hk
              refine zi_l rfl rfl rfl ?_
              by_cases q13 : i5 < m11.2.2.1
              case neg => rw [if_neg q13] at hk; cases hk
              rw [if_pos q13] at hk
              refine zc_gS (v := .int (m11.1.1 3 12 i5)) h rfl rfl rfl q13 rfl ?_
              refine zi_ifd rfl rfl rfl (tgt := 90) (by decide) (fun c14 => ?_) (fun c14 => ?_)
              · rw [if_pos c14] at hk
                refine zk_sub [0, 1, 2] rfl rfl ?_
                exact cT_answerFirstAsk_90 hq H_11 hk h k
              · rw [if_neg c14] at hk
                refine zi_l rfl rfl rfl ?_
                refine zi_a (st' := .int 1 :: _) rfl rfl rfl ?_
                by_cases q15 : i5 < m11.2.2.1
                case neg => rw [if_neg q15] at hk; cases hk
                rw [if_pos q15] at hk
                refine zc_pS1 h rfl rfl rfl q15 rfl ⟨rfl, rfl, Or.inl rfl⟩ (fun w h => ?_)
                generalize cu1 m11 3 12 i5 (1 : Int32) = m16 at h hk
                rw [cPut_eq] at hk
                refine zi_l rfl rfl rfl ?_
                refine zc_gf (c := 4) (k := 0) (o := 3) (n := 10) (t := 4) h rfl rfl rfl (by decide) (by decide) ?_
                refine zc_gf (c := 5) (k := 1) (o := 4) (n := 5) (t := 6) h rfl rfl rfl (by decide) (by decide) ?_
                refine zi_l rfl rfl rfl ?_
                by_cases q17 : i5 < m16.2.2.1
                case neg => rw [if_neg q17] at hk; cases hk
                rw [if_pos q17] at hk
                refine zc_gS (v := .int (m16.1.1 3 2 i5)) h rfl rfl rfl q17 rfl ?_
                refine zi_l rfl rfl rfl ?_
                refine zi_s rfl rfl rfl rfl rfl (cT_put (c := 12) (o := 6) h (by decide) rfl (fun w h => ?_))
                generalize cput m16 12 (m16.1.1 3 2 i5) l1 = m18 at h hk
                rw [cPut_eq] at hk
                by_cases q19 : (cputb (m16.1.1 3 2 i5)) = 0 ∨ (cputb (m16.1.1 3 2 i5)) = 1
                case neg => rw [if_neg q19] at hk; cases hk
                rw [if_pos q19] at hk
                cases hk
                exact zi_rz rfl rfl q19 (k w h)
def cF_answerFirstAsk_11 : Nat → Int64 → Int32 → cS → Option (Int32 × cS)
  | 0 => fun _ _ _ => none
  | n + 1 => fun l1 l3 σ => cF_answerFirstAsk_11b (cF_answerFirstAsk_11 n) l1 l3 σ
theorem cT_answerFirstAsk_11 {S : zS} {q : Nat} {w0 : zW} {Post : Option Value → zW → Prop} {b0 : Nat} {pa sa : Nat → Nat} {σ2 : cS} {v : Int32} (hq : 2 ≤ q) (k : ∀ w2, cW b0 w0 pa sa σ2 w2 → Post (some (.int v)) w2) : ∀ (n : Nat) (l1 : Int64) (l3 : Int32) (σ : cS) (w : zW), cF_answerFirstAsk_11 n l1 l3 σ = some (v, σ2) → cW b0 w0 pa sa σ w → zOk S (q + 1) 59 11 [(0, .ref (b0 + 3)), (1, .long l1), (3, .int l3)] [] w Post := by
  intro n
  induction n with
  | zero => intro l1 l3 σ w hk; cases hk
  | succ n ih => intro l1 l3 σ w hk h; exact cT_answerFirstAsk_11b hq ih hk h k
def cF_answerFirstAsk (a1 : Int64) (σ : cS) : Option (Int32 × cS) :=
  if (σ.1.1 4 5 0) = 0 then (cF_answerFirstAsk_11  510 a1 (0 : Int32) σ) else (some ((0 : Int32), σ))
theorem cT_answerFirstAsk {S : zS} {q : Nat} {w w0 : zW} {Post : Option Value → zW → Prop} {b0 : Nat} {pa sa : Nat → Nat} {σ σ2 : cS} {v : Int32} {a1 : Int64} (hq : 2 ≤ q) (hk : cF_answerFirstAsk a1 σ = some (v, σ2)) (h : cW b0 w0 pa sa σ w) (k : ∀ w2, cW b0 w0 pa sa σ2 w2 → Post (some (.int v)) w2) : zOk S (q + 1) 59 0 (lv_args 0 [.ref (b0 + 3), .long a1]) [] w Post := by
  unfold cF_answerFirstAsk at hk
  refine zi_l rfl rfl rfl ?_
  refine zc_gv (o := 3) (n := 10) (v := .int (σ.1.1 4 5 0)) h rfl rfl rfl (by decide) (by decide) rfl ?_
  refine zi_ifd rfl rfl rfl (tgt := 9) (by decide) (fun c1 => ?_) (fun c1 => ?_)
  · rw [if_pos c1] at hk
    refine zi_a (st' := .int 0 :: _) rfl rfl rfl ?_
    refine zi_l rfl rfl rfl ?_
    exact cT_answerFirstAsk_11 hq k 510 _ _ _ _ hk h
  · rw [if_neg c1] at hk
    refine zi_a (st' := .int 0 :: _) rfl rfl rfl ?_
    cases hk
    exact zi_rz rfl rfl (Or.inl rfl) (k w h)
def cF_setHeld_32 (l2 : Int32) (s0 : Int32) (σ : cS) : Option (Int32 × cS) :=
  cPut (cu1 σ 4 5 0 l2) fun m1 => if s0 = 0 ∨ s0 = 1 then some (s0, m1) else none
theorem cT_setHeld_32 {S : zS} {q : Nat} {w w0 : zW} {Post : Option Value → zW → Prop} {b0 : Nat} {pa sa : Nat → Nat} {σ σ2 : cS} {v : Int32} {l2 : Int32} {s0 : Int32} (hq : 1 ≤ q) (hk : cF_setHeld_32 l2 s0 σ = some (v, σ2)) (h : cW b0 w0 pa sa σ w) (k : ∀ w2, cW b0 w0 pa sa σ2 w2 → Post (some (.int v)) w2) : zOk S (q + 1) 61 32 [(0, .ref (b0 + 3)), (2, .int l2)] [.int s0] w Post := by
  unfold cF_setHeld_32 at hk
  refine zi_l rfl rfl rfl ?_
  refine zi_l rfl rfl rfl ?_
  refine zi_l rfl rfl rfl ?_
  refine zc_pv (o := 3) (n := 10) h rfl rfl rfl (by decide) (by decide) rfl ⟨rfl, rfl, Or.inl rfl⟩ (fun w h => ?_)
  generalize cu1 σ 4 5 0 l2 = m1 at h hk
  rw [cPut_eq] at hk
  refine zi_l rfl rfl rfl ?_
  by_cases q2 : s0 = 0 ∨ s0 = 1
  case neg => rw [if_neg q2] at hk; cases hk
  rw [if_pos q2] at hk
  cases hk
  exact zi_rz rfl rfl q2 (k w h)
def cF_setHeld_18 (s0 : Int32) (σ : cS) : Option (Int32 × cS) :=
  if (σ.1.1 4 5 0) = s0 then (cF_setHeld_32  s0 (0 : Int32) σ) else (cF_setHeld_32  s0 (1 : Int32) σ)
theorem cT_setHeld_18 {S : zS} {q : Nat} {w w0 : zW} {Post : Option Value → zW → Prop} {b0 : Nat} {pa sa : Nat → Nat} {σ σ2 : cS} {v : Int32} {s0 : Int32} (hq : 1 ≤ q) (hk : cF_setHeld_18 s0 σ = some (v, σ2)) (h : cW b0 w0 pa sa σ w) (k : ∀ w2, cW b0 w0 pa sa σ2 w2 → Post (some (.int v)) w2) : zOk S (q + 1) 61 18 [(0, .ref (b0 + 3))] [.int s0] w Post := by
  unfold cF_setHeld_18 at hk
  refine zi_l rfl rfl rfl ?_
  refine zi_l rfl rfl rfl ?_
  refine zc_gv (o := 3) (n := 10) (v := .int (σ.1.1 4 5 0)) h rfl rfl rfl (by decide) (by decide) rfl ?_
  refine zi_l rfl rfl rfl ?_
  refine zi_ifd rfl rfl rfl (tgt := 31) (by decide) (fun c1 => ?_) (fun c1 => ?_)
  · rw [if_pos c1] at hk
    refine zi_a (st' := .int 0 :: _) rfl rfl rfl ?_
    exact cT_setHeld_32 hq hk h k
  · rw [if_neg c1] at hk
    refine zi_a (st' := .int 1 :: _) rfl rfl rfl ?_
    refine zi_go rfl rfl rfl (tgt := 32) (by decide) ?_
    exact cT_setHeld_32 hq hk h k
def cF_setHeld (a1 : Int32) (σ : cS) : Option (Int32 × cS) :=
  match cF_isLive  σ with | none => none | some (v2, m3) => if ¬ v2 = 0 then (if a1 = 0 then (cF_setHeld_18  (0 : Int32) m3) else (cF_setHeld_18  (2 : Int32) m3)) else (some ((0 : Int32), m3))
theorem cT_setHeld {S : zS} {q : Nat} {w w0 : zW} {Post : Option Value → zW → Prop} {b0 : Nat} {pa sa : Nat → Nat} {σ σ2 : cS} {v : Int32} {a1 : Int32} (hq : 1 ≤ q) (hk : cF_setHeld a1 σ = some (v, σ2)) (h : cW b0 w0 pa sa σ w) (k : ∀ w2, cW b0 w0 pa sa σ2 w2 → Post (some (.int v)) w2) : zOk S (q + 1) 61 0 (lv_args 0 [.ref (b0 + 3), .int a1]) [] w Post := by
  unfold cF_setHeld at hk
  refine zi_l rfl rfl rfl ?_
  cases c1 : cF_isLive  σ with
  | none => rw [c1] at hk; cases hk
  | some q1 =>
    obtain ⟨v2, m3⟩ := q1
    rw [c1] at hk
    dsimp only at hk
    refine zi_v rfl rfl rfl (h.sh (o := 3) (c := 4) (n := 10) (by decide)) rfl rfl rfl (zOk.deep (cT_isLive (q := 0) (by omega) c1 h (fun w h => ?_)) (by omega))
    refine zi_ifd rfl rfl rfl (tgt := 9) (by decide) (fun c4 => ?_) (fun c4 => ?_)
    · rw [if_pos c4] at hk
      refine zi_l rfl rfl rfl ?_
      refine zi_ifd rfl rfl rfl (tgt := 17) (by decide) (fun c5 => ?_) (fun c5 => ?_)
      · rw [if_pos c5] at hk
        refine zi_a (st' := .int 0 :: _) rfl rfl rfl ?_
        refine zk_sub [0] rfl rfl ?_
        exact cT_setHeld_18 hq hk h k
      · rw [if_neg c5] at hk
        refine zi_a (st' := .int 2 :: _) rfl rfl rfl ?_
        refine zi_go rfl rfl rfl (tgt := 18) (by decide) ?_
        refine zk_sub [0] rfl rfl ?_
        exact cT_setHeld_18 hq hk h k
    · rw [if_neg c4] at hk
      refine zi_a (st' := .int 0 :: _) rfl rfl rfl ?_
      cases hk
      exact zi_rz rfl rfl (Or.inl rfl) (k w h)
def cF_giveUpAll (g_giveUp : Option Nat → cS → Option (Int32 × cS)) (σ : cS) : Option (Int32 × cS) :=
  match cF_isLive  σ with | none => none | some (v2, m3) => if ¬ v2 = 0 then (match g_giveUp (m3.1.2.2 4 4 0) m3 with | none => none | some (v6, m7) => cPut (cu1 m7 4 5 0 (3 : Int32)) fun m8 => some (v6, m8)) else (some ((-1 : Int32), m3))
theorem cT_giveUpAll {S : zS} {q : Nat} {w w0 : zW} {Post : Option Value → zW → Prop} {b0 : Nat} {pa sa : Nat → Nat} {σ σ2 : cS} {v : Int32} {g_giveUp : Option Nat → cS → Option (Int32 × cS)} (hq : 1 ≤ q) (H_giveUp : ∀ {x1 : Option Nat} {ν ν2 : cS} {y : Int32} {w : zW} {P : Option Value → zW → Prop}, g_giveUp x1 ν = some (y, ν2) → cW b0 w0 pa sa ν w → (∀ w2, cW b0 w0 pa sa ν2 w2 → P (some (.int y)) w2) → zOk S q 36 0 (lv_args 0 [.ref (b0 + 3), cr sa x1]) [] w P) (hk : cF_giveUpAll g_giveUp σ = some (v, σ2)) (h : cW b0 w0 pa sa σ w) (k : ∀ w2, cW b0 w0 pa sa σ2 w2 → Post (some (.int v)) w2) : zOk S (q + 1) 63 0 (lv_args 0 [.ref (b0 + 3)]) [] w Post := by
  unfold cF_giveUpAll at hk
  refine zi_l rfl rfl rfl ?_
  cases c1 : cF_isLive  σ with
  | none => rw [c1] at hk; cases hk
  | some q1 =>
    obtain ⟨v2, m3⟩ := q1
    rw [c1] at hk
    dsimp only at hk
    refine zi_v rfl rfl rfl (h.sh (o := 3) (c := 4) (n := 10) (by decide)) rfl rfl rfl (zOk.deep (cT_isLive (q := 0) (by omega) c1 h (fun w h => ?_)) (by omega))
    refine zi_ifd rfl rfl rfl (tgt := 9) (by decide) (fun c4 => ?_) (fun c4 => ?_)
    · rw [if_pos c4] at hk
      refine zi_l rfl rfl rfl ?_
      refine zi_l rfl rfl rfl ?_
      refine zc_gv (o := 3) (n := 10) (v := cr sa (m3.1.2.2 4 4 0)) h rfl rfl rfl (by decide) (by decide) rfl ?_
      cases c5 : g_giveUp (m3.1.2.2 4 4 0) m3 with
      | none => rw [c5] at hk; cases hk
      | some q1 =>
        obtain ⟨v6, m7⟩ := q1
        rw [c5] at hk
        dsimp only at hk
        refine zi_v rfl rfl rfl (h.sh (o := 3) (c := 4) (n := 10) (by decide)) rfl rfl (by generalize (m3.1.2.2 4 4 0) = o0; cases o0 <;> rfl) (zOk.deep (H_giveUp c5 h (fun w h => ?_)) (by omega))
        refine zi_l rfl rfl rfl ?_
        refine zi_l rfl rfl rfl ?_
        refine zi_a (st' := .int 3 :: _) rfl rfl rfl ?_
        refine zc_pv (o := 3) (n := 10) h rfl rfl rfl (by decide) (by decide) rfl ⟨rfl, rfl, Or.inl rfl⟩ (fun w h => ?_)
        generalize cu1 m7 4 5 0 (3 : Int32) = m8 at h hk
        rw [cPut_eq] at hk
        refine zi_l rfl rfl rfl ?_
        cases hk
        exact zi_ri rfl rfl (k w h)
    · rw [if_neg c4] at hk
      refine zi_a (st' := .int (-1) :: _) rfl rfl rfl ?_
      cases hk
      exact zi_ri rfl rfl (k w h)
def cF_signal (a1 : Int32) (a2 : Int64) (σ : cS) : Option (Int32 × cS) :=
  cPut (cput σ 11 a1 a2) fun m1 => if (cputb a1) = 0 ∨ (cputb a1) = 1 then some ((cputb a1), m1) else none
theorem cT_signal {S : zS} {q : Nat} {w w0 : zW} {Post : Option Value → zW → Prop} {b0 : Nat} {pa sa : Nat → Nat} {σ σ2 : cS} {v : Int32} {a1 : Int32} {a2 : Int64} (hq : 1 ≤ q) (hk : cF_signal a1 a2 σ = some (v, σ2)) (h : cW b0 w0 pa sa σ w) (k : ∀ w2, cW b0 w0 pa sa σ2 w2 → Post (some (.int v)) w2) : zOk S (q + 1) 20 0 (lv_args 0 [.ref (b0 + 0), .int a1, .long a2]) [] w Post := by
  unfold cF_signal at hk
  refine zi_l rfl rfl rfl ?_
  refine zc_gf (c := 6) (k := 1) (o := 0) (n := 2) (t := 3) h rfl rfl rfl (by decide) (by decide) ?_
  refine zc_gf (c := 4) (k := 0) (o := 3) (n := 10) (t := 4) h rfl rfl rfl (by decide) (by decide) ?_
  refine zc_gf (c := 5) (k := 0) (o := 4) (n := 5) (t := 5) h rfl rfl rfl (by decide) (by decide) ?_
  refine zi_l rfl rfl rfl ?_
  refine zi_l rfl rfl rfl ?_
  refine zi_s rfl rfl rfl rfl rfl (cT_put (c := 11) (o := 5) h (by decide) rfl (fun w h => ?_))
  generalize cput σ 11 a1 a2 = m1 at h hk
  rw [cPut_eq] at hk
  by_cases q2 : (cputb a1) = 0 ∨ (cputb a1) = 1
  case neg => rw [if_neg q2] at hk; cases hk
  rw [if_pos q2] at hk
  cases hk
  exact zi_rz rfl rfl q2 (k w h)
def cF_tick_54 (g_reckon : Option Nat → cS → Option (Int64 × cS)) (g_giveUp : Option Nat → cS → Option (Int32 × cS)) (g_goOn : Option Nat → cS → Option (Int32 × cS)) (σ : cS) : Option (Int32 × cS) :=
  some ((σ.1.1 4 5 0), σ)
theorem cT_tick_54 {S : zS} {q : Nat} {w w0 : zW} {Post : Option Value → zW → Prop} {b0 : Nat} {pa sa : Nat → Nat} {σ σ2 : cS} {v : Int32} {g_reckon : Option Nat → cS → Option (Int64 × cS)} {g_giveUp : Option Nat → cS → Option (Int32 × cS)} {g_goOn : Option Nat → cS → Option (Int32 × cS)} (hq : 1 ≤ q) (H_reckon : ∀ {x1 : Option Nat} {ν ν2 : cS} {y : Int64} {w : zW} {P : Option Value → zW → Prop}, g_reckon x1 ν = some (y, ν2) → cW b0 w0 pa sa ν w → (∀ w2, cW b0 w0 pa sa ν2 w2 → P (some (.long y)) w2) → zOk S q 33 0 (lv_args 0 [.ref (b0 + 3), cr pa x1]) [] w P) (H_giveUp : ∀ {x1 : Option Nat} {ν ν2 : cS} {y : Int32} {w : zW} {P : Option Value → zW → Prop}, g_giveUp x1 ν = some (y, ν2) → cW b0 w0 pa sa ν w → (∀ w2, cW b0 w0 pa sa ν2 w2 → P (some (.int y)) w2) → zOk S q 36 0 (lv_args 0 [.ref (b0 + 3), cr sa x1]) [] w P) (H_goOn : ∀ {x1 : Option Nat} {ν ν2 : cS} {y : Int32} {w : zW} {P : Option Value → zW → Prop}, g_goOn x1 ν = some (y, ν2) → cW b0 w0 pa sa ν w → (∀ w2, cW b0 w0 pa sa ν2 w2 → P (some (.int y)) w2) → zOk S q 38 0 (lv_args 0 [.ref (b0 + 3), cr sa x1]) [] w P) (hk : cF_tick_54 g_reckon g_giveUp g_goOn σ = some (v, σ2)) (h : cW b0 w0 pa sa σ w) (k : ∀ w2, cW b0 w0 pa sa σ2 w2 → Post (some (.int v)) w2) : zOk S (q + 3) 30 54 [(0, .ref (b0 + 0))] [] w Post := by
  unfold cF_tick_54 at hk
  refine zi_l rfl rfl rfl ?_
  refine zc_gf (c := 6) (k := 1) (o := 0) (n := 2) (t := 3) h rfl rfl rfl (by decide) (by decide) ?_
  refine zc_gv (o := 3) (n := 10) (v := .int (σ.1.1 4 5 0)) h rfl rfl rfl (by decide) (by decide) rfl ?_
  cases hk
  exact zi_ri rfl rfl (k w h)
def cF_tick_26b (g_reckon : Option Nat → cS → Option (Int64 × cS)) (g_giveUp : Option Nat → cS → Option (Int32 × cS)) (g_goOn : Option Nat → cS → Option (Int32 × cS)) (k_26 : Int32 → Int32 → cS → Option (Int32 × cS)) (l1 : Int32) (l2 : Int32) (σ : cS) : Option (Int32 × cS) :=
  if l1 ≤ l2 then (cF_tick_54 g_reckon g_giveUp g_goOn  σ) else (if ¬ (σ.1.1 4 5 0) = 0 then (cF_tick_54 g_reckon g_giveUp g_goOn  σ) else (match cF_doSecond g_reckon g_giveUp g_goOn σ with | none => none | some (v4, m5) => k_26 l1 (l2 + Int32.ofInt 1) m5))
theorem cT_tick_26b {S : zS} {q : Nat} {w w0 : zW} {Post : Option Value → zW → Prop} {b0 : Nat} {pa sa : Nat → Nat} {σ σ2 : cS} {v : Int32} {g_reckon : Option Nat → cS → Option (Int64 × cS)} {g_giveUp : Option Nat → cS → Option (Int32 × cS)} {g_goOn : Option Nat → cS → Option (Int32 × cS)} {k_26 : Int32 → Int32 → cS → Option (Int32 × cS)} {l1 : Int32} {l2 : Int32} (hq : 1 ≤ q) (H_reckon : ∀ {x1 : Option Nat} {ν ν2 : cS} {y : Int64} {w : zW} {P : Option Value → zW → Prop}, g_reckon x1 ν = some (y, ν2) → cW b0 w0 pa sa ν w → (∀ w2, cW b0 w0 pa sa ν2 w2 → P (some (.long y)) w2) → zOk S q 33 0 (lv_args 0 [.ref (b0 + 3), cr pa x1]) [] w P) (H_giveUp : ∀ {x1 : Option Nat} {ν ν2 : cS} {y : Int32} {w : zW} {P : Option Value → zW → Prop}, g_giveUp x1 ν = some (y, ν2) → cW b0 w0 pa sa ν w → (∀ w2, cW b0 w0 pa sa ν2 w2 → P (some (.int y)) w2) → zOk S q 36 0 (lv_args 0 [.ref (b0 + 3), cr sa x1]) [] w P) (H_goOn : ∀ {x1 : Option Nat} {ν ν2 : cS} {y : Int32} {w : zW} {P : Option Value → zW → Prop}, g_goOn x1 ν = some (y, ν2) → cW b0 w0 pa sa ν w → (∀ w2, cW b0 w0 pa sa ν2 w2 → P (some (.int y)) w2) → zOk S q 38 0 (lv_args 0 [.ref (b0 + 3), cr sa x1]) [] w P) (H_26 : ∀ (l1 : Int32) (l2 : Int32) (ν : cS) (w : zW), k_26 l1 l2 ν = some (v, σ2) → cW b0 w0 pa sa ν w → zOk S (q + 3) 30 26 [(0, .ref (b0 + 0)), (1, .int l1), (2, .int l2)] [] w Post) (hk : cF_tick_26b g_reckon g_giveUp g_goOn k_26 l1 l2 σ = some (v, σ2)) (h : cW b0 w0 pa sa σ w) (k : ∀ w2, cW b0 w0 pa sa σ2 w2 → Post (some (.int v)) w2) : zOk S (q + 3) 30 26 [(0, .ref (b0 + 0)), (1, .int l1), (2, .int l2)] [] w Post := by
  unfold cF_tick_26b at hk
  refine zi_l rfl rfl rfl ?_
  refine zi_l rfl rfl rfl ?_
  refine zi_ifd rfl rfl rfl (tgt := 54) (by decide) (fun c1 => ?_) (fun c1 => ?_)
  · rw [if_pos c1] at hk
    refine zk_sub [0] rfl rfl ?_
    exact cT_tick_54 hq H_reckon H_giveUp H_goOn hk h k
  · rw [if_neg c1] at hk
    refine zi_l rfl rfl rfl ?_
    refine zc_gf (c := 6) (k := 1) (o := 0) (n := 2) (t := 3) h rfl rfl rfl (by decide) (by decide) ?_
    refine zc_gv (o := 3) (n := 10) (v := .int (σ.1.1 4 5 0)) h rfl rfl rfl (by decide) (by decide) rfl ?_
    refine zi_ifd rfl rfl rfl (tgt := 54) (by decide) (fun c2 => ?_) (fun c2 => ?_)
    · rw [if_pos c2] at hk
      refine zk_sub [0] rfl rfl ?_
      exact cT_tick_54 hq H_reckon H_giveUp H_goOn hk h k
    · rw [if_neg c2] at hk
      refine zi_l rfl rfl rfl ?_
      refine zc_gf (c := 6) (k := 1) (o := 0) (n := 2) (t := 3) h rfl rfl rfl (by decide) (by decide) ?_
      cases c3 : cF_doSecond g_reckon g_giveUp g_goOn σ with
      | none => rw [c3] at hk; cases hk
      | some q1 =>
        obtain ⟨v4, m5⟩ := q1
        rw [c3] at hk
        dsimp only at hk
        refine zi_v rfl rfl rfl (h.sh (o := 3) (c := 4) (n := 10) (by decide)) rfl rfl rfl (zOk.deep (cT_doSecond (q := q) (by omega) H_reckon H_giveUp H_goOn c3 h (fun w h => ?_)) (by omega))
        refine zi_l rfl rfl rfl ?_
        refine zi_go rfl rfl rfl (tgt := 26) (by decide) ?_
        exact H_26 _ _ _ _ hk h
def cF_tick_26 (g_reckon : Option Nat → cS → Option (Int64 × cS)) (g_giveUp : Option Nat → cS → Option (Int32 × cS)) (g_goOn : Option Nat → cS → Option (Int32 × cS)) : Nat → Int32 → Int32 → cS → Option (Int32 × cS)
  | 0 => fun _ _ _ => none
  | n + 1 => fun l1 l2 σ => cF_tick_26b g_reckon g_giveUp g_goOn (cF_tick_26 g_reckon g_giveUp g_goOn n) l1 l2 σ
theorem cT_tick_26 {S : zS} {q : Nat} {w0 : zW} {Post : Option Value → zW → Prop} {b0 : Nat} {pa sa : Nat → Nat} {σ2 : cS} {v : Int32} {g_reckon : Option Nat → cS → Option (Int64 × cS)} {g_giveUp : Option Nat → cS → Option (Int32 × cS)} {g_goOn : Option Nat → cS → Option (Int32 × cS)} (hq : 1 ≤ q) (H_reckon : ∀ {x1 : Option Nat} {ν ν2 : cS} {y : Int64} {w : zW} {P : Option Value → zW → Prop}, g_reckon x1 ν = some (y, ν2) → cW b0 w0 pa sa ν w → (∀ w2, cW b0 w0 pa sa ν2 w2 → P (some (.long y)) w2) → zOk S q 33 0 (lv_args 0 [.ref (b0 + 3), cr pa x1]) [] w P) (H_giveUp : ∀ {x1 : Option Nat} {ν ν2 : cS} {y : Int32} {w : zW} {P : Option Value → zW → Prop}, g_giveUp x1 ν = some (y, ν2) → cW b0 w0 pa sa ν w → (∀ w2, cW b0 w0 pa sa ν2 w2 → P (some (.int y)) w2) → zOk S q 36 0 (lv_args 0 [.ref (b0 + 3), cr sa x1]) [] w P) (H_goOn : ∀ {x1 : Option Nat} {ν ν2 : cS} {y : Int32} {w : zW} {P : Option Value → zW → Prop}, g_goOn x1 ν = some (y, ν2) → cW b0 w0 pa sa ν w → (∀ w2, cW b0 w0 pa sa ν2 w2 → P (some (.int y)) w2) → zOk S q 38 0 (lv_args 0 [.ref (b0 + 3), cr sa x1]) [] w P) (k : ∀ w2, cW b0 w0 pa sa σ2 w2 → Post (some (.int v)) w2) : ∀ (n : Nat) (l1 : Int32) (l2 : Int32) (σ : cS) (w : zW), cF_tick_26 g_reckon g_giveUp g_goOn n l1 l2 σ = some (v, σ2) → cW b0 w0 pa sa σ w → zOk S (q + 3) 30 26 [(0, .ref (b0 + 0)), (1, .int l1), (2, .int l2)] [] w Post := by
  intro n
  induction n with
  | zero => intro l1 l2 σ w hk; cases hk
  | succ n ih => intro l1 l2 σ w hk h; exact cT_tick_26b hq H_reckon H_giveUp H_goOn ih hk h k
def cF_tick (g_reckon : Option Nat → cS → Option (Int64 × cS)) (g_giveUp : Option Nat → cS → Option (Int32 × cS)) (g_goOn : Option Nat → cS → Option (Int32 × cS)) (a1 : Int32) (σ : cS) : Option (Int32 × cS) :=
  if (σ.1.1 4 5 0) = (-1 : Int32) then (some ((-1 : Int32), σ)) else (if a1 < 0 then (some ((-1 : Int32), σ)) else (if a1 ≤ (10000 : Int32) then (cF_tick_26 g_reckon g_giveUp g_goOn 10010 a1 (0 : Int32) σ) else (some ((-1 : Int32), σ))))
theorem cT_tick {S : zS} {q : Nat} {w w0 : zW} {Post : Option Value → zW → Prop} {b0 : Nat} {pa sa : Nat → Nat} {σ σ2 : cS} {v : Int32} {g_reckon : Option Nat → cS → Option (Int64 × cS)} {g_giveUp : Option Nat → cS → Option (Int32 × cS)} {g_goOn : Option Nat → cS → Option (Int32 × cS)} {a1 : Int32} (hq : 1 ≤ q) (H_reckon : ∀ {x1 : Option Nat} {ν ν2 : cS} {y : Int64} {w : zW} {P : Option Value → zW → Prop}, g_reckon x1 ν = some (y, ν2) → cW b0 w0 pa sa ν w → (∀ w2, cW b0 w0 pa sa ν2 w2 → P (some (.long y)) w2) → zOk S q 33 0 (lv_args 0 [.ref (b0 + 3), cr pa x1]) [] w P) (H_giveUp : ∀ {x1 : Option Nat} {ν ν2 : cS} {y : Int32} {w : zW} {P : Option Value → zW → Prop}, g_giveUp x1 ν = some (y, ν2) → cW b0 w0 pa sa ν w → (∀ w2, cW b0 w0 pa sa ν2 w2 → P (some (.int y)) w2) → zOk S q 36 0 (lv_args 0 [.ref (b0 + 3), cr sa x1]) [] w P) (H_goOn : ∀ {x1 : Option Nat} {ν ν2 : cS} {y : Int32} {w : zW} {P : Option Value → zW → Prop}, g_goOn x1 ν = some (y, ν2) → cW b0 w0 pa sa ν w → (∀ w2, cW b0 w0 pa sa ν2 w2 → P (some (.int y)) w2) → zOk S q 38 0 (lv_args 0 [.ref (b0 + 3), cr sa x1]) [] w P) (hk : cF_tick g_reckon g_giveUp g_goOn a1 σ = some (v, σ2)) (h : cW b0 w0 pa sa σ w) (k : ∀ w2, cW b0 w0 pa sa σ2 w2 → Post (some (.int v)) w2) : zOk S (q + 3) 30 0 (lv_args 0 [.ref (b0 + 0), .int a1]) [] w Post := by
  unfold cF_tick at hk
  refine zi_l rfl rfl rfl ?_
  refine zc_gf (c := 6) (k := 1) (o := 0) (n := 2) (t := 3) h rfl rfl rfl (by decide) (by decide) ?_
  refine zc_gv (o := 3) (n := 10) (v := .int (σ.1.1 4 5 0)) h rfl rfl rfl (by decide) (by decide) rfl ?_
  refine zi_a (st' := .int (-1) :: _) rfl rfl rfl ?_
  refine zi_ifd rfl rfl rfl (tgt := 22) (by decide) (fun c1 => ?_) (fun c1 => ?_)
  · rw [if_pos c1] at hk
    refine zi_a (st' := .int (-1) :: _) rfl rfl rfl ?_
    cases hk
    exact zi_ri rfl rfl (k w h)
  · rw [if_neg c1] at hk
    refine zi_l rfl rfl rfl ?_
    refine zi_ifd rfl rfl rfl (tgt := 22) (by decide) (fun c2 => ?_) (fun c2 => ?_)
    · rw [if_pos c2] at hk
      refine zi_a (st' := .int (-1) :: _) rfl rfl rfl ?_
      cases hk
      exact zi_ri rfl rfl (k w h)
    · rw [if_neg c2] at hk
      refine zi_l rfl rfl rfl ?_
      refine zi_a (st' := .int 10000 :: _) rfl rfl rfl ?_
      refine zi_ifd rfl rfl rfl (tgt := 24) (by decide) (fun c3 => ?_) (fun c3 => ?_)
      · rw [if_pos c3] at hk
        refine zi_a (st' := .int 0 :: _) rfl rfl rfl ?_
        refine zi_l rfl rfl rfl ?_
        exact cT_tick_26 hq H_reckon H_giveUp H_goOn k 10010 _ _ _ _ hk h
      · rw [if_neg c3] at hk
        refine zi_a (st' := .int (-1) :: _) rfl rfl rfl ?_
        cases hk
        exact zi_ri rfl rfl (k w h)
def cF_output_42 (l1 : Int32) (σ : cS) : Option (Int64 × cS) :=
  some ((cget σ 13 l1), σ)
theorem cT_output_42 {S : zS} {q : Nat} {w w0 : zW} {Post : Option Value → zW → Prop} {b0 : Nat} {pa sa : Nat → Nat} {σ σ2 : cS} {v : Int64} {l1 : Int32} (hq : 1 ≤ q) (hk : cF_output_42 l1 σ = some (v, σ2)) (h : cW b0 w0 pa sa σ w) (k : ∀ w2, cW b0 w0 pa sa σ2 w2 → Post (some (.long v)) w2) : zOk S (q + 1) 50 42 [(0, .ref (b0 + 0)), (1, .int l1)] [] w Post := by
  unfold cF_output_42 at hk
  refine zi_l rfl rfl rfl ?_
  refine zc_gf (c := 6) (k := 1) (o := 0) (n := 2) (t := 3) h rfl rfl rfl (by decide) (by decide) ?_
  refine zc_gf (c := 4) (k := 0) (o := 3) (n := 10) (t := 4) h rfl rfl rfl (by decide) (by decide) ?_
  refine zc_gf (c := 5) (k := 2) (o := 4) (n := 5) (t := 7) h rfl rfl rfl (by decide) (by decide) ?_
  refine zi_l rfl rfl rfl ?_
  refine zi_s rfl rfl rfl rfl rfl (cT_get (c := 13) (o := 7) h (by decide) rfl ?_)
  cases hk
  exact zi_rl rfl rfl (k w h)
def cF_output (a1 : Int32) (σ : cS) : Option (Int64 × cS) :=
  if ¬ (σ.1.1 4 5 0) = (2 : Int32) then (cF_output_42  a1 σ) else (match cF_hasSafe a1 σ with | none => none | some (v3, m4) => if v3 = 0 then (cF_output_42  a1 m4) else (some ((cget m4 14 a1), m4)))
theorem cT_output {S : zS} {q : Nat} {w w0 : zW} {Post : Option Value → zW → Prop} {b0 : Nat} {pa sa : Nat → Nat} {σ σ2 : cS} {v : Int64} {a1 : Int32} (hq : 1 ≤ q) (hk : cF_output a1 σ = some (v, σ2)) (h : cW b0 w0 pa sa σ w) (k : ∀ w2, cW b0 w0 pa sa σ2 w2 → Post (some (.long v)) w2) : zOk S (q + 1) 50 0 (lv_args 0 [.ref (b0 + 0), .int a1]) [] w Post := by
  unfold cF_output at hk
  refine zi_l rfl rfl rfl ?_
  refine zc_gf (c := 6) (k := 1) (o := 0) (n := 2) (t := 3) h rfl rfl rfl (by decide) (by decide) ?_
  refine zc_gv (o := 3) (n := 10) (v := .int (σ.1.1 4 5 0)) h rfl rfl rfl (by decide) (by decide) rfl ?_
  refine zi_a (st' := .int 2 :: _) rfl rfl rfl ?_
  refine zi_ifd rfl rfl rfl (tgt := 42) (by decide) (fun c1 => ?_) (fun c1 => ?_)
  · rw [if_pos c1] at hk
    exact cT_output_42 hq hk h k
  · rw [if_neg c1] at hk
    refine zi_l rfl rfl rfl ?_
    refine zc_gf (c := 6) (k := 1) (o := 0) (n := 2) (t := 3) h rfl rfl rfl (by decide) (by decide) ?_
    refine zc_gf (c := 4) (k := 0) (o := 3) (n := 10) (t := 4) h rfl rfl rfl (by decide) (by decide) ?_
    refine zi_l rfl rfl rfl ?_
    cases c2 : cF_hasSafe a1 σ with
    | none => rw [c2] at hk; cases hk
    | some q1 =>
      obtain ⟨v3, m4⟩ := q1
      rw [c2] at hk
      dsimp only at hk
      refine zi_v rfl rfl rfl (h.sh (o := 4) (c := 5) (n := 5) (by decide)) rfl rfl rfl (zOk.deep (cT_hasSafe (q := 0) (by omega) c2 h (fun w h => ?_)) (by omega))
      refine zi_ifd rfl rfl rfl (tgt := 42) (by decide) (fun c5 => ?_) (fun c5 => ?_)
      · rw [if_pos c5] at hk
        exact cT_output_42 hq hk h k
      · rw [if_neg c5] at hk
        refine zi_l rfl rfl rfl ?_
        refine zc_gf (c := 6) (k := 1) (o := 0) (n := 2) (t := 3) h rfl rfl rfl (by decide) (by decide) ?_
        refine zc_gf (c := 4) (k := 0) (o := 3) (n := 10) (t := 4) h rfl rfl rfl (by decide) (by decide) ?_
        refine zc_gf (c := 5) (k := 3) (o := 4) (n := 5) (t := 8) h rfl rfl rfl (by decide) (by decide) ?_
        refine zi_l rfl rfl rfl ?_
        refine zi_s rfl rfl rfl rfl rfl (cT_get (c := 14) (o := 8) h (by decide) rfl ?_)
        refine zi_go rfl rfl rfl (tgt := 56) (by decide) ?_
        cases hk
        exact zi_rl rfl rfl (k w h)
def cF_step (a1 : Int32) (σ : cS) : Option (Int32 × cS) :=
  match cF_nodeStandingStill a1 σ with | none => none | some (v2, m3) => some (v2, m3)
theorem cT_step {S : zS} {q : Nat} {w w0 : zW} {Post : Option Value → zW → Prop} {b0 : Nat} {pa sa : Nat → Nat} {σ σ2 : cS} {v : Int32} {a1 : Int32} (hq : 3 ≤ q) (hk : cF_step a1 σ = some (v, σ2)) (h : cW b0 w0 pa sa σ w) (k : ∀ w2, cW b0 w0 pa sa σ2 w2 → Post (some (.int v)) w2) : zOk S (q + 1) 52 0 (lv_args 0 [.ref (b0 + 0), .int a1]) [] w Post := by
  unfold cF_step at hk
  refine zi_l rfl rfl rfl ?_
  refine zc_gf (c := 6) (k := 1) (o := 0) (n := 2) (t := 3) h rfl rfl rfl (by decide) (by decide) ?_
  refine zi_l rfl rfl rfl ?_
  cases c1 : cF_nodeStandingStill a1 σ with
  | none => rw [c1] at hk; cases hk
  | some q1 =>
    obtain ⟨v2, m3⟩ := q1
    rw [c1] at hk
    dsimp only at hk
    refine zi_v rfl rfl rfl (h.sh (o := 3) (c := 4) (n := 10) (by decide)) rfl rfl rfl (zOk.deep (cT_nodeStandingStill (q := 2) (by omega) c1 h (fun w h => ?_)) (by omega))
    cases hk
    exact zi_ri rfl rfl (k w h)
def cF_alarm (a1 : Int32) (a2 : Int32) (σ : cS) : Option (Int32 × cS) :=
  match cF_alarmAt a1 a2 σ with | none => none | some (v2, m3) => some (v2, m3)
theorem cT_alarm {S : zS} {q : Nat} {w w0 : zW} {Post : Option Value → zW → Prop} {b0 : Nat} {pa sa : Nat → Nat} {σ σ2 : cS} {v : Int32} {a1 : Int32} {a2 : Int32} (hq : 1 ≤ q) (hk : cF_alarm a1 a2 σ = some (v, σ2)) (h : cW b0 w0 pa sa σ w) (k : ∀ w2, cW b0 w0 pa sa σ2 w2 → Post (some (.int v)) w2) : zOk S (q + 1) 56 0 (lv_args 0 [.ref (b0 + 0), .int a1, .int a2]) [] w Post := by
  unfold cF_alarm at hk
  refine zi_l rfl rfl rfl ?_
  refine zc_gf (c := 6) (k := 1) (o := 0) (n := 2) (t := 3) h rfl rfl rfl (by decide) (by decide) ?_
  refine zc_gf (c := 4) (k := 1) (o := 3) (n := 10) (t := 10) h rfl rfl rfl (by decide) (by decide) ?_
  refine zi_l rfl rfl rfl ?_
  refine zi_l rfl rfl rfl ?_
  cases c1 : cF_alarmAt a1 a2 σ with
  | none => rw [c1] at hk; cases hk
  | some q1 =>
    obtain ⟨v2, m3⟩ := q1
    rw [c1] at hk
    dsimp only at hk
    refine zi_v rfl rfl rfl (h.sh (o := 10) (c := 0) (n := 6) (by decide)) rfl rfl rfl (zOk.deep (cT_alarmAt (q := 0) (by omega) c1 h (fun w h => ?_)) (by omega))
    cases hk
    exact zi_ri rfl rfl (k w h)
def cF_answer (a1 : Int64) (σ : cS) : Option (Int32 × cS) :=
  match cF_answerFirstAsk a1 σ with | none => none | some (v2, m3) => if v2 = 0 ∨ v2 = 1 then some (v2, m3) else none
theorem cT_answer {S : zS} {q : Nat} {w w0 : zW} {Post : Option Value → zW → Prop} {b0 : Nat} {pa sa : Nat → Nat} {σ σ2 : cS} {v : Int32} {a1 : Int64} (hq : 3 ≤ q) (hk : cF_answer a1 σ = some (v, σ2)) (h : cW b0 w0 pa sa σ w) (k : ∀ w2, cW b0 w0 pa sa σ2 w2 → Post (some (.int v)) w2) : zOk S (q + 1) 58 0 (lv_args 0 [.ref (b0 + 0), .long a1]) [] w Post := by
  unfold cF_answer at hk
  refine zi_l rfl rfl rfl ?_
  refine zc_gf (c := 6) (k := 1) (o := 0) (n := 2) (t := 3) h rfl rfl rfl (by decide) (by decide) ?_
  refine zi_l rfl rfl rfl ?_
  cases c1 : cF_answerFirstAsk a1 σ with
  | none => rw [c1] at hk; cases hk
  | some q1 =>
    obtain ⟨v2, m3⟩ := q1
    rw [c1] at hk
    dsimp only at hk
    refine zi_v rfl rfl rfl (h.sh (o := 3) (c := 4) (n := 10) (by decide)) rfl rfl rfl (zOk.deep (cT_answerFirstAsk (q := 2) (by omega) c1 h (fun w h => ?_)) (by omega))
    by_cases q4 : v2 = 0 ∨ v2 = 1
    case neg => rw [if_neg q4] at hk; cases hk
    rw [if_pos q4] at hk
    cases hk
    exact zi_rz rfl rfl q4 (k w h)
def cF_hold (a1 : Int32) (σ : cS) : Option (Int32 × cS) :=
  match cF_setHeld a1 σ with | none => none | some (v2, m3) => if v2 = 0 ∨ v2 = 1 then some (v2, m3) else none
theorem cT_hold {S : zS} {q : Nat} {w w0 : zW} {Post : Option Value → zW → Prop} {b0 : Nat} {pa sa : Nat → Nat} {σ σ2 : cS} {v : Int32} {a1 : Int32} (hq : 2 ≤ q) (hk : cF_hold a1 σ = some (v, σ2)) (h : cW b0 w0 pa sa σ w) (k : ∀ w2, cW b0 w0 pa sa σ2 w2 → Post (some (.int v)) w2) : zOk S (q + 1) 60 0 (lv_args 0 [.ref (b0 + 0), .int a1]) [] w Post := by
  unfold cF_hold at hk
  refine zi_l rfl rfl rfl ?_
  refine zc_gf (c := 6) (k := 1) (o := 0) (n := 2) (t := 3) h rfl rfl rfl (by decide) (by decide) ?_
  refine zi_l rfl rfl rfl ?_
  cases c1 : cF_setHeld a1 σ with
  | none => rw [c1] at hk; cases hk
  | some q1 =>
    obtain ⟨v2, m3⟩ := q1
    rw [c1] at hk
    dsimp only at hk
    refine zi_v rfl rfl rfl (h.sh (o := 3) (c := 4) (n := 10) (by decide)) rfl rfl rfl (zOk.deep (cT_setHeld (q := 1) (by omega) c1 h (fun w h => ?_)) (by omega))
    by_cases q4 : v2 = 0 ∨ v2 = 1
    case neg => rw [if_neg q4] at hk; cases hk
    rw [if_pos q4] at hk
    cases hk
    exact zi_rz rfl rfl q4 (k w h)
def cF_stop (g_giveUp : Option Nat → cS → Option (Int32 × cS)) (σ : cS) : Option (Int32 × cS) :=
  match cF_giveUpAll g_giveUp σ with | none => none | some (v2, m3) => some (v2, m3)
theorem cT_stop {S : zS} {q : Nat} {w w0 : zW} {Post : Option Value → zW → Prop} {b0 : Nat} {pa sa : Nat → Nat} {σ σ2 : cS} {v : Int32} {g_giveUp : Option Nat → cS → Option (Int32 × cS)} (hq : 1 ≤ q) (H_giveUp : ∀ {x1 : Option Nat} {ν ν2 : cS} {y : Int32} {w : zW} {P : Option Value → zW → Prop}, g_giveUp x1 ν = some (y, ν2) → cW b0 w0 pa sa ν w → (∀ w2, cW b0 w0 pa sa ν2 w2 → P (some (.int y)) w2) → zOk S q 36 0 (lv_args 0 [.ref (b0 + 3), cr sa x1]) [] w P) (hk : cF_stop g_giveUp σ = some (v, σ2)) (h : cW b0 w0 pa sa σ w) (k : ∀ w2, cW b0 w0 pa sa σ2 w2 → Post (some (.int v)) w2) : zOk S (q + 2) 62 0 (lv_args 0 [.ref (b0 + 0)]) [] w Post := by
  unfold cF_stop at hk
  refine zi_l rfl rfl rfl ?_
  refine zc_gf (c := 6) (k := 1) (o := 0) (n := 2) (t := 3) h rfl rfl rfl (by decide) (by decide) ?_
  cases c1 : cF_giveUpAll g_giveUp σ with
  | none => rw [c1] at hk; cases hk
  | some q1 =>
    obtain ⟨v2, m3⟩ := q1
    rw [c1] at hk
    dsimp only at hk
    refine zi_v rfl rfl rfl (h.sh (o := 3) (c := 4) (n := 10) (by decide)) rfl rfl rfl (zOk.deep (cT_giveUpAll (q := q) (by omega) H_giveUp c1 h (fun w h => ?_)) (by omega))
    cases hk
    exact zi_ri rfl rfl (k w h)
def cF_closed (a1 : Int32) (σ : cS) : Option (Int32 × cS) :=
  match cF_closedAt a1 σ with | none => none | some (v2, m3) => some (v2, m3)
theorem cT_closed {S : zS} {q : Nat} {w w0 : zW} {Post : Option Value → zW → Prop} {b0 : Nat} {pa sa : Nat → Nat} {σ σ2 : cS} {v : Int32} {a1 : Int32} (hq : 1 ≤ q) (hk : cF_closed a1 σ = some (v, σ2)) (h : cW b0 w0 pa sa σ w) (k : ∀ w2, cW b0 w0 pa sa σ2 w2 → Post (some (.int v)) w2) : zOk S (q + 1) 64 0 (lv_args 0 [.ref (b0 + 0), .int a1]) [] w Post := by
  unfold cF_closed at hk
  refine zi_l rfl rfl rfl ?_
  refine zc_gf (c := 6) (k := 1) (o := 0) (n := 2) (t := 3) h rfl rfl rfl (by decide) (by decide) ?_
  refine zc_gf (c := 4) (k := 1) (o := 3) (n := 10) (t := 10) h rfl rfl rfl (by decide) (by decide) ?_
  refine zi_l rfl rfl rfl ?_
  cases c1 : cF_closedAt a1 σ with
  | none => rw [c1] at hk; cases hk
  | some q1 =>
    obtain ⟨v2, m3⟩ := q1
    rw [c1] at hk
    dsimp only at hk
    refine zi_v rfl rfl rfl (h.sh (o := 10) (c := 0) (n := 6) (by decide)) rfl rfl rfl (zOk.deep (cT_closedAt (q := 0) (by omega) c1 h (fun w h => ?_)) (by omega))
    cases hk
    exact zi_ri rfl rfl (k w h)
def cF_value (a1 : Int32) (σ : cS) : Option (Int64 × cS) :=
  some ((cget σ 12 a1), σ)
theorem cT_value {S : zS} {q : Nat} {w w0 : zW} {Post : Option Value → zW → Prop} {b0 : Nat} {pa sa : Nat → Nat} {σ σ2 : cS} {v : Int64} {a1 : Int32} (hq : 1 ≤ q) (hk : cF_value a1 σ = some (v, σ2)) (h : cW b0 w0 pa sa σ w) (k : ∀ w2, cW b0 w0 pa sa σ2 w2 → Post (some (.long v)) w2) : zOk S (q + 1) 66 0 (lv_args 0 [.ref (b0 + 0), .int a1]) [] w Post := by
  unfold cF_value at hk
  refine zi_l rfl rfl rfl ?_
  refine zc_gf (c := 6) (k := 1) (o := 0) (n := 2) (t := 3) h rfl rfl rfl (by decide) (by decide) ?_
  refine zc_gf (c := 4) (k := 0) (o := 3) (n := 10) (t := 4) h rfl rfl rfl (by decide) (by decide) ?_
  refine zc_gf (c := 5) (k := 1) (o := 4) (n := 5) (t := 6) h rfl rfl rfl (by decide) (by decide) ?_
  refine zi_l rfl rfl rfl ?_
  refine zi_s rfl rfl rfl rfl rfl (cT_get (c := 12) (o := 6) h (by decide) rfl ?_)
  cases hk
  exact zi_rl rfl rfl (k w h)
def cF_safe (a1 : Int32) (a2 : Int64) (σ : cS) : Option (Int32 × cS) :=
  match cF_tellSafe a1 a2 σ with | none => none | some (v2, m3) => if v2 = 0 ∨ v2 = 1 then some (v2, m3) else none
theorem cT_safe {S : zS} {q : Nat} {w w0 : zW} {Post : Option Value → zW → Prop} {b0 : Nat} {pa sa : Nat → Nat} {σ σ2 : cS} {v : Int32} {a1 : Int32} {a2 : Int64} (hq : 2 ≤ q) (hk : cF_safe a1 a2 σ = some (v, σ2)) (h : cW b0 w0 pa sa σ w) (k : ∀ w2, cW b0 w0 pa sa σ2 w2 → Post (some (.int v)) w2) : zOk S (q + 1) 67 0 (lv_args 0 [.ref (b0 + 0), .int a1, .long a2]) [] w Post := by
  unfold cF_safe at hk
  refine zi_l rfl rfl rfl ?_
  refine zc_gf (c := 6) (k := 1) (o := 0) (n := 2) (t := 3) h rfl rfl rfl (by decide) (by decide) ?_
  refine zc_gf (c := 4) (k := 0) (o := 3) (n := 10) (t := 4) h rfl rfl rfl (by decide) (by decide) ?_
  refine zi_l rfl rfl rfl ?_
  refine zi_l rfl rfl rfl ?_
  cases c1 : cF_tellSafe a1 a2 σ with
  | none => rw [c1] at hk; cases hk
  | some q1 =>
    obtain ⟨v2, m3⟩ := q1
    rw [c1] at hk
    dsimp only at hk
    refine zi_v rfl rfl rfl (h.sh (o := 4) (c := 5) (n := 5) (by decide)) rfl rfl rfl (zOk.deep (cT_tellSafe (q := 1) (by omega) c1 h (fun w h => ?_)) (by omega))
    by_cases q4 : v2 = 0 ∨ v2 = 1
    case neg => rw [if_neg q4] at hk; cases hk
    rw [if_pos q4] at hk
    cases hk
    exact zi_rz rfl rfl q4 (k w h)
