/-! the class decompiled: functions over its state, and that its code runs them (by wip/whole/gen5.py) -/
def cF_Part_49 (s0 : Nat) (s1 : Int32) (σ : cS) : Option (Unit × cS) :=
  if s1 = 0 ∨ s1 = 1 then if s0 < σ.2.1 then cPut (cu1 σ 1 10 s0 s1) fun m3 => some ((), m3) else none else none
theorem cT_Part_49 {S : zS} {q : Nat} {w w0 : zW} {Post : Option Value → zW → Prop} {b0 : Nat} {pa sa : Nat → Nat} {σ σ2 : cS} {v : Unit} {s0 : Nat} {s1 : Int32} (hq : 1 ≤ q) (hk : cF_Part_49 s0 s1 σ = some (v, σ2)) (h : cW b0 w0 pa sa σ w) (k : ∀ w2, cW b0 w0 pa sa σ2 w2 → Post none w2) : zOk S (q + 1) 8 49 [] [.int s1, .ref (pa s0)] w Post := by
  unfold cF_Part_49 at hk
  by_cases q1 : s1 = 0 ∨ s1 = 1
  case neg => rw [if_neg q1] at hk; cases hk
  rw [if_pos q1] at hk
  by_cases q2 : s0 < σ.2.1
  case neg => rw [if_neg q2] at hk; cases hk
  rw [if_pos q2] at hk
  refine zc_pP1 h rfl rfl rfl q2 rfl ⟨z_nb q1, z_fb q1, Or.inl rfl⟩ (fun w h => ?_)
  generalize cu1 σ 1 10 s0 s1 = m3 at h hk
  rw [cPut_eq] at hk
  cases hk
  exact zi_ret rfl rfl rfl (k w h)
def cF_Part_44 (s0 : Nat) (σ : cS) : Option (Unit × cS) :=
  cF_Part_49  s0 (1 : Int32) σ
theorem cT_Part_44 {S : zS} {q : Nat} {w w0 : zW} {Post : Option Value → zW → Prop} {b0 : Nat} {pa sa : Nat → Nat} {σ σ2 : cS} {v : Unit} {s0 : Nat} (hq : 1 ≤ q) (hk : cF_Part_44 s0 σ = some (v, σ2)) (h : cW b0 w0 pa sa σ w) (k : ∀ w2, cW b0 w0 pa sa σ2 w2 → Post none w2) : zOk S (q + 1) 8 44 [] [.ref (pa s0)] w Post := by
  unfold cF_Part_44 at hk
  refine zi_a (st' := .int 1 :: _) rfl rfl rfl ?_
  refine zi_go rfl rfl rfl (tgt := 49) (by decide) ?_
  exact cT_Part_49 hq hk h k
def cF_Part (a0 : Nat) (a1 : Int32) (σ : cS) : Option (Unit × cS) :=
  if a0 < σ.2.1 then cPut (cu1 σ 1 8 a0 (1 : Int32)) fun m2 => if a0 < m2.2.1 then cPut (cu2 m2 1 9 a0 (1 : Int64)) fun m4 => if a0 < m4.2.1 then cPut (cu1 m4 1 0 a0 a1) fun m6 => if a1 = (10 : Int32) then (cF_Part_44  a0 m6) else (if a1 = (11 : Int32) then (cF_Part_44  a0 m6) else (if a1 = (12 : Int32) then (cF_Part_44  a0 m6) else (if ¬ a1 = (16 : Int32) then (cF_Part_49  a0 (0 : Int32) m6) else (cF_Part_44  a0 m6)))) else none else none else none
theorem cT_Part {S : zS} {q : Nat} {w w0 : zW} {Post : Option Value → zW → Prop} {b0 : Nat} {pa sa : Nat → Nat} {σ σ2 : cS} {v : Unit} {a0 : Nat} {a1 : Int32} (hq : 1 ≤ q) (hk : cF_Part a0 a1 σ = some (v, σ2)) (h : cW b0 w0 pa sa σ w) (k : ∀ w2, cW b0 w0 pa sa σ2 w2 → Post none w2) : zOk S (q + 1) 8 0 (lv_args 0 [.ref (pa a0), .int a1]) [] w Post := by
  unfold cF_Part at hk
  refine zi_l rfl rfl rfl ?_
  refine zi_o rfl rfl rfl rfl ?_
  refine zi_l rfl rfl rfl ?_
  refine zi_a (st' := .int 1 :: _) rfl rfl rfl ?_
  by_cases q1 : a0 < σ.2.1
  case neg => rw [if_neg q1] at hk; cases hk
  rw [if_pos q1] at hk
  refine zc_pP1 h rfl rfl rfl q1 rfl ⟨rfl, rfl, Or.inl rfl⟩ (fun w h => ?_)
  generalize cu1 σ 1 8 a0 (1 : Int32) = m2 at h hk
  rw [cPut_eq] at hk
  refine zi_l rfl rfl rfl ?_
  refine zi_a (st' := .long 1 :: _) rfl rfl rfl ?_
  by_cases q3 : a0 < m2.2.1
  case neg => rw [if_neg q3] at hk; cases hk
  rw [if_pos q3] at hk
  refine zc_pP2 h rfl rfl rfl q3 rfl ⟨rfl, rfl, Or.inl rfl⟩ (fun w h => ?_)
  generalize cu2 m2 1 9 a0 (1 : Int64) = m4 at h hk
  rw [cPut_eq] at hk
  refine zi_l rfl rfl rfl ?_
  refine zi_l rfl rfl rfl ?_
  by_cases q5 : a0 < m4.2.1
  case neg => rw [if_neg q5] at hk; cases hk
  rw [if_pos q5] at hk
  refine zc_pP1 h rfl rfl rfl q5 rfl ⟨rfl, rfl, Or.inr ⟨rfl, rfl, rfl⟩⟩ (fun w h => ?_)
  generalize cu1 m4 1 0 a0 a1 = m6 at h hk
  rw [cPut_eq] at hk
  refine zi_l rfl rfl rfl ?_
  refine zi_l rfl rfl rfl ?_
  refine zi_a (st' := .int 10 :: _) rfl rfl rfl ?_
  refine zi_ifd rfl rfl rfl (tgt := 44) (by decide) (fun c7 => ?_) (fun c7 => ?_)
  · rw [if_pos c7] at hk
    refine zk_sub [] rfl rfl ?_
    exact cT_Part_44 hq hk h k
  · rw [if_neg c7] at hk
    refine zi_l rfl rfl rfl ?_
    refine zi_a (st' := .int 11 :: _) rfl rfl rfl ?_
    refine zi_ifd rfl rfl rfl (tgt := 44) (by decide) (fun c8 => ?_) (fun c8 => ?_)
    · rw [if_pos c8] at hk
      refine zk_sub [] rfl rfl ?_
      exact cT_Part_44 hq hk h k
    · rw [if_neg c8] at hk
      refine zi_l rfl rfl rfl ?_
      refine zi_a (st' := .int 12 :: _) rfl rfl rfl ?_
      refine zi_ifd rfl rfl rfl (tgt := 44) (by decide) (fun c9 => ?_) (fun c9 => ?_)
      · rw [if_pos c9] at hk
        refine zk_sub [] rfl rfl ?_
        exact cT_Part_44 hq hk h k
      · rw [if_neg c9] at hk
        refine zi_l rfl rfl rfl ?_
        refine zi_a (st' := .int 16 :: _) rfl rfl rfl ?_
        refine zi_ifd rfl rfl rfl (tgt := 48) (by decide) (fun c10 => ?_) (fun c10 => ?_)
        · rw [if_pos c10] at hk
          refine zi_a (st' := .int 0 :: _) rfl rfl rfl ?_
          refine zk_sub [] rfl rfl ?_
          exact cT_Part_49 hq hk h k
        · rw [if_neg c10] at hk
          refine zk_sub [] rfl rfl ?_
          exact cT_Part_44 hq hk h k
def cF_Spot (a0 : Nat) (σ : cS) : Option (Unit × cS) :=
  some ((), σ)
theorem cT_Spot {S : zS} {q : Nat} {w w0 : zW} {Post : Option Value → zW → Prop} {b0 : Nat} {pa sa : Nat → Nat} {σ σ2 : cS} {v : Unit} {a0 : Nat} (hq : 1 ≤ q) (hk : cF_Spot a0 σ = some (v, σ2)) (h : cW b0 w0 pa sa σ w) (k : ∀ w2, cW b0 w0 pa sa σ2 w2 → Post none w2) : zOk S (q + 1) 28 0 (lv_args 0 [.ref (sa a0)]) [] w Post := by
  unfold cF_Spot at hk
  refine zi_l rfl rfl rfl ?_
  refine zi_o rfl rfl rfl rfl ?_
  cases hk
  exact zi_ret rfl rfl rfl (k w h)
def cF_add (a1 : Option Nat) (σ : cS) : Option (Int32 × cS) :=
  match a1 with | none => (if (σ.1.1 2 1 0) < (Int32.ofNat 200) then (none) else (some ((-2 : Int32), σ))) | some i1 => (if (σ.1.1 2 1 0) < (Int32.ofNat 200) then (if i1 < σ.2.1 then cPut (cu1 σ 1 1 i1 (σ.1.1 2 1 0)) fun m4 => if i1 < m4.2.1 then if zix (m4.1.1 2 1 0) 200 then cPut (cu3 m4 10 0 ((m4.1.1 2 1 0)).toNatClampNeg (some i1)) fun m7 => cPut (cu1 m7 2 1 0 ((m7.1.1 2 1 0) + (1 : Int32))) fun m8 => if i1 < m8.2.1 then some ((m8.1.1 1 1 i1), m8) else none else none else none else none) else (some ((-2 : Int32), σ)))
theorem cT_add {S : zS} {q : Nat} {w w0 : zW} {Post : Option Value → zW → Prop} {b0 : Nat} {pa sa : Nat → Nat} {σ σ2 : cS} {v : Int32} {a1 : Option Nat} (hq : 0 ≤ q) (hk : cF_add a1 σ = some (v, σ2)) (h : cW b0 w0 pa sa σ w) (k : ∀ w2, cW b0 w0 pa sa σ2 w2 → Post (some (.int v)) w2) : zOk S (q + 1) 9 0 (lv_args 0 [.ref (b0 + 1), cr pa a1]) [] w Post := by
  unfold cF_add at hk
  cases a1 with
  | none =>
    dsimp only at hk
    refine zi_l rfl rfl rfl ?_
    refine zc_gv (o := 1) (n := 2) (v := .int (σ.1.1 2 1 0)) h rfl rfl rfl (by decide) (by decide) rfl ?_
    refine zi_l rfl rfl rfl ?_
    refine zc_gf (c := 2) (k := 0) (o := 1) (n := 2) (t := 2) h rfl rfl rfl (by decide) (by decide) ?_
    refine zc_len (o := 2) (c := 103) (n := 200) h rfl (by decide) rfl ?_
    refine zi_ifd rfl rfl rfl (tgt := 15) (by decide) (fun c1 => ?_) (fun c1 => ?_)
    · rw [if_pos c1] at hk
      refine zi_l rfl rfl rfl ?_
      refine zi_l rfl rfl rfl ?_
      refine zc_gv (o := 1) (n := 2) (v := .int (σ.1.1 2 1 0)) h rfl rfl rfl (by decide) (by decide) rfl ?_
      cases hk
    · rw [if_neg c1] at hk
      refine zi_a (st' := .int (-2) :: _) rfl rfl rfl ?_
      cases hk
      exact zi_ri rfl rfl (k w h)
  | some i1 =>
    dsimp only at hk
    refine zi_l rfl rfl rfl ?_
    refine zc_gv (o := 1) (n := 2) (v := .int (σ.1.1 2 1 0)) h rfl rfl rfl (by decide) (by decide) rfl ?_
    refine zi_l rfl rfl rfl ?_
    refine zc_gf (c := 2) (k := 0) (o := 1) (n := 2) (t := 2) h rfl rfl rfl (by decide) (by decide) ?_
    refine zc_len (o := 2) (c := 103) (n := 200) h rfl (by decide) rfl ?_
    refine zi_ifd rfl rfl rfl (tgt := 15) (by decide) (fun c2 => ?_) (fun c2 => ?_)
    · rw [if_pos c2] at hk
      refine zi_l rfl rfl rfl ?_
      refine zi_l rfl rfl rfl ?_
      refine zc_gv (o := 1) (n := 2) (v := .int (σ.1.1 2 1 0)) h rfl rfl rfl (by decide) (by decide) rfl ?_
      by_cases q3 : i1 < σ.2.1
      case neg => rw [if_neg q3] at hk; cases hk
      rw [if_pos q3] at hk
      refine zc_pP1 h rfl rfl rfl q3 rfl ⟨rfl, rfl, Or.inl rfl⟩ (fun w h => ?_)
      generalize cu1 σ 1 1 i1 (σ.1.1 2 1 0) = m4 at h hk
      rw [cPut_eq] at hk
      refine zi_l rfl rfl rfl ?_
      refine zc_gf (c := 2) (k := 0) (o := 1) (n := 2) (t := 2) h rfl rfl rfl (by decide) (by decide) ?_
      refine zi_l rfl rfl rfl ?_
      refine zc_gv (o := 1) (n := 2) (v := .int (m4.1.1 2 1 0)) h rfl rfl rfl (by decide) (by decide) rfl ?_
      refine zi_l rfl rfl rfl ?_
      by_cases q5 : i1 < m4.2.1
      case neg => rw [if_neg q5] at hk; cases hk
      rw [if_pos q5] at hk
      by_cases q6 : zix (m4.1.1 2 1 0) 200
      case neg => rw [if_neg q6] at hk; cases hk
      rw [if_pos q6] at hk
      refine zc_sp h rfl q5 q6 (fun w h => ?_)
      generalize cu3 m4 10 0 ((m4.1.1 2 1 0)).toNatClampNeg (some i1) = m7 at h hk
      rw [cPut_eq] at hk
      refine zi_l rfl rfl rfl ?_
      refine zi_a rfl rfl rfl ?_
      refine zc_gv (o := 1) (n := 2) (v := .int (m7.1.1 2 1 0)) h rfl rfl rfl (by decide) (by decide) rfl ?_
      refine zi_a (st' := .int 1 :: _) rfl rfl rfl ?_
      refine zi_a rfl rfl rfl ?_
      refine zc_pv (o := 1) (n := 2) h rfl rfl rfl (by decide) (by decide) rfl ⟨rfl, rfl, Or.inl rfl⟩ (fun w h => ?_)
      generalize cu1 m7 2 1 0 ((m7.1.1 2 1 0) + (1 : Int32)) = m8 at h hk
      rw [cPut_eq] at hk
      refine zi_l rfl rfl rfl ?_
      by_cases q9 : i1 < m8.2.1
      case neg => rw [if_neg q9] at hk; cases hk
      rw [if_pos q9] at hk
      refine zc_gP (v := .int (m8.1.1 1 1 i1)) h rfl rfl rfl q9 rfl ?_
      cases hk
      exact zi_ri rfl rfl (k w h)
    · rw [if_neg c2] at hk
      refine zi_a (st' := .int (-2) :: _) rfl rfl rfl ?_
      cases hk
      exact zi_ri rfl rfl (k w h)
def cF_addLeaf_73 (l4 : Nat) (σ : cS) : Option (Int32 × cS) :=
  match cF_add (some l4) σ with | none => none | some (v2, m3) => some (v2, m3)
theorem cT_addLeaf_73 {S : zS} {q : Nat} {w w0 : zW} {Post : Option Value → zW → Prop} {b0 : Nat} {pa sa : Nat → Nat} {σ σ2 : cS} {v : Int32} {l4 : Nat} (hq : 2 ≤ q) (hk : cF_addLeaf_73 l4 σ = some (v, σ2)) (h : cW b0 w0 pa sa σ w) (k : ∀ (pa2 : Nat → Nat) (w2 : zW), cW b0 w0 pa2 sa σ2 w2 → Post (some (.int v)) w2) : zOk S (q + 1) 7 73 [(0, .ref (b0 + 1)), (4, .ref (pa l4))] [] w Post := by
  unfold cF_addLeaf_73 at hk
  refine zi_l rfl rfl rfl ?_
  refine zi_l rfl rfl rfl ?_
  cases c1 : cF_add (some l4) σ with
  | none => rw [c1] at hk; cases hk
  | some q1 =>
    obtain ⟨v2, m3⟩ := q1
    rw [c1] at hk
    dsimp only at hk
    refine zi_v rfl rfl rfl (h.sh (o := 1) (c := 2) (n := 2) (by decide)) rfl rfl rfl (zOk.deep (cT_add (q := 0) (by omega) c1 h (fun w h => ?_)) (by omega))
    cases hk
    exact zi_ri rfl rfl (k _ w h)
def cF_addLeaf_50 (l2 : Int64) (l4 : Nat) (σ : cS) : Option (Int32 × cS) :=
  if (lg_cmp l2 (0 : Int64)) < 0 then (some ((-1 : Int32), σ)) else (if (lg_cmp l2 (16 : Int64)) < 0 then (if l4 < σ.2.1 then cPut (cu1 σ 1 2 l4 (l2).toInt32) fun m4 => cF_addLeaf_73  l4 m4 else none) else (some ((-1 : Int32), σ)))
theorem cT_addLeaf_50 {S : zS} {q : Nat} {w w0 : zW} {Post : Option Value → zW → Prop} {b0 : Nat} {pa sa : Nat → Nat} {σ σ2 : cS} {v : Int32} {l2 : Int64} {l4 : Nat} (hq : 2 ≤ q) (hk : cF_addLeaf_50 l2 l4 σ = some (v, σ2)) (h : cW b0 w0 pa sa σ w) (k : ∀ (pa2 : Nat → Nat) (w2 : zW), cW b0 w0 pa2 sa σ2 w2 → Post (some (.int v)) w2) : zOk S (q + 1) 7 50 [(0, .ref (b0 + 1)), (2, .long l2), (4, .ref (pa l4))] [] w Post := by
  unfold cF_addLeaf_50 at hk
  refine zi_l rfl rfl rfl ?_
  refine zi_a (st' := .long 0 :: _) rfl rfl rfl ?_
  refine zi_a rfl rfl rfl ?_
  refine zi_ifd rfl rfl rfl (tgt := 64) (by decide) (fun c1 => ?_) (fun c1 => ?_)
  · rw [if_pos c1] at hk
    refine zi_a (st' := .int (-1) :: _) rfl rfl rfl ?_
    cases hk
    exact zi_ri rfl rfl (k _ w h)
  · rw [if_neg c1] at hk
    refine zi_l rfl rfl rfl ?_
    refine zi_c2 rfl rfl ?_
    refine zi_a rfl rfl rfl ?_
    refine zi_ifd rfl rfl rfl (tgt := 66) (by decide) (fun c2 => ?_) (fun c2 => ?_)
    · rw [if_pos c2] at hk
      refine zi_l rfl rfl rfl ?_
      refine zi_l rfl rfl rfl ?_
      refine zi_a rfl rfl rfl ?_
      by_cases q3 : l4 < σ.2.1
      case neg => rw [if_neg q3] at hk; cases hk
      rw [if_pos q3] at hk
      refine zc_pP1 h rfl rfl rfl q3 rfl ⟨rfl, rfl, Or.inl rfl⟩ (fun w h => ?_)
      generalize cu1 σ 1 2 l4 (l2).toInt32 = m4 at h hk
      rw [cPut_eq] at hk
      refine zk_sub [0, 2] rfl rfl ?_
      exact cT_addLeaf_73 hq hk h k
    · rw [if_neg c2] at hk
      refine zi_a (st' := .int (-1) :: _) rfl rfl rfl ?_
      cases hk
      exact zi_ri rfl rfl (k _ w h)
def cF_addLeaf (a1 : Int32) (a2 : Int64) (σ : cS) : Option (Int32 × cS) :=
  if a1 < 0 then (some ((-1 : Int32), σ)) else (if a1 < (4 : Int32) then (cPut (cnP σ) fun m3 => if (σ.2.1) < m3.2.1 then match cF_Part (σ.2.1) ((30 : Int32) + a1) m3 with | none => none | some (v6, m7) => if (σ.2.1) < m7.2.1 then cPut (cu2 m7 1 3 (σ.2.1) a2) fun m9 => if (σ.2.1) < m9.2.1 then if (m9.1.1 1 0 (σ.2.1)) = (31 : Int32) then (cF_addLeaf_50  a2 (σ.2.1) m9) else (if (σ.2.1) < m9.2.1 then if ¬ (m9.1.1 1 0 (σ.2.1)) = (32 : Int32) then (cF_addLeaf_73  (σ.2.1) m9) else (cF_addLeaf_50  a2 (σ.2.1) m9) else none) else none else none else none) else (some ((-1 : Int32), σ)))
theorem cT_addLeaf {S : zS} {q : Nat} {w w0 : zW} {Post : Option Value → zW → Prop} {b0 : Nat} {pa sa : Nat → Nat} {σ σ2 : cS} {v : Int32} {a1 : Int32} {a2 : Int64} (hq : 2 ≤ q) (hk : cF_addLeaf a1 a2 σ = some (v, σ2)) (h : cW b0 w0 pa sa σ w) (k : ∀ (pa2 : Nat → Nat) (w2 : zW), cW b0 w0 pa2 sa σ2 w2 → Post (some (.int v)) w2) : zOk S (q + 1) 7 0 (lv_args 0 [.ref (b0 + 1), .int a1, .long a2]) [] w Post := by
  unfold cF_addLeaf at hk
  refine zi_l rfl rfl rfl ?_
  refine zi_ifd rfl rfl rfl (tgt := 9) (by decide) (fun c1 => ?_) (fun c1 => ?_)
  · rw [if_pos c1] at hk
    refine zi_a (st' := .int (-1) :: _) rfl rfl rfl ?_
    cases hk
    exact zi_ri rfl rfl (k _ w h)
  · rw [if_neg c1] at hk
    refine zi_l rfl rfl rfl ?_
    refine zi_a (st' := .int 4 :: _) rfl rfl rfl ?_
    refine zi_ifd rfl rfl rfl (tgt := 11) (by decide) (fun c2 => ?_) (fun c2 => ?_)
    · rw [if_pos c2] at hk
      refine zc_newP h rfl rfl (fun pa w h => ?_)
      generalize cnP σ = m3 at h hk
      rw [cPut_eq] at hk
      refine zi_a rfl rfl rfl ?_
      refine zi_a (st' := .int 30 :: _) rfl rfl rfl ?_
      refine zi_l rfl rfl rfl ?_
      refine zi_a rfl rfl rfl ?_
      by_cases q4 : (σ.2.1) < m3.2.1
      case neg => rw [if_neg q4] at hk; cases hk
      rw [if_pos q4] at hk
      cases c5 : cF_Part (σ.2.1) ((30 : Int32) + a1) m3 with
      | none => rw [c5] at hk; cases hk
      | some q1 =>
        obtain ⟨v6, m7⟩ := q1
        rw [c5] at hk
        dsimp only at hk
        refine zi_i rfl rfl rfl rfl rfl (zOk.deep (cT_Part (q := 1) (by omega) c5 h (fun w h => ?_)) (by omega))
        refine zi_l rfl rfl rfl ?_
        refine zi_l rfl rfl rfl ?_
        refine zi_l rfl rfl rfl ?_
        by_cases q8 : (σ.2.1) < m7.2.1
        case neg => rw [if_neg q8] at hk; cases hk
        rw [if_pos q8] at hk
        refine zc_pP2 h rfl rfl rfl q8 rfl ⟨rfl, rfl, Or.inl rfl⟩ (fun w h => ?_)
        generalize cu2 m7 1 3 (σ.2.1) a2 = m9 at h hk
        rw [cPut_eq] at hk
        refine zi_l rfl rfl rfl ?_
        by_cases q10 : (σ.2.1) < m9.2.1
        case neg => rw [if_neg q10] at hk; cases hk
        rw [if_pos q10] at hk
        refine zc_gP (v := .int (m9.1.1 1 0 (σ.2.1))) h rfl rfl rfl q10 rfl ?_
        refine zi_a (st' := .int 31 :: _) rfl rfl rfl ?_
        refine zi_ifd rfl rfl rfl (tgt := 50) (by decide) (fun c11 => ?_) (fun c11 => ?_)
        · rw [if_pos c11] at hk
          refine zk_sub [0, 2, 3] rfl rfl ?_
          exact cT_addLeaf_50 hq hk h k
        · rw [if_neg c11] at hk
          refine zi_l rfl rfl rfl ?_
          by_cases q12 : (σ.2.1) < m9.2.1
          case neg => rw [if_neg q12] at hk; cases hk
          rw [if_pos q12] at hk
          refine zc_gP (v := .int (m9.1.1 1 0 (σ.2.1))) h rfl rfl rfl q12 rfl ?_
          refine zi_a (st' := .int 32 :: _) rfl rfl rfl ?_
          refine zi_ifd rfl rfl rfl (tgt := 73) (by decide) (fun c13 => ?_) (fun c13 => ?_)
          · rw [if_pos c13] at hk
            refine zk_sub [0, 3] rfl rfl ?_
            exact cT_addLeaf_73 hq hk h k
          · rw [if_neg c13] at hk
            refine zk_sub [0, 2, 3] rfl rfl ?_
            exact cT_addLeaf_50 hq hk h k
    · rw [if_neg c2] at hk
      refine zi_a (st' := .int (-1) :: _) rfl rfl rfl ?_
      cases hk
      exact zi_ri rfl rfl (k _ w h)
def cF_addNode_57 (l5 : Nat) (σ : cS) : Option (Int32 × cS) :=
  match cF_add (some l5) σ with | none => none | some (v2, m3) => some (v2, m3)
theorem cT_addNode_57 {S : zS} {q : Nat} {w w0 : zW} {Post : Option Value → zW → Prop} {b0 : Nat} {pa sa : Nat → Nat} {σ σ2 : cS} {v : Int32} {l5 : Nat} (hq : 4 ≤ q) (hk : cF_addNode_57 l5 σ = some (v, σ2)) (h : cW b0 w0 pa sa σ w) (k : ∀ (pa2 : Nat → Nat) (w2 : zW), cW b0 w0 pa2 sa σ2 w2 → Post (some (.int v)) w2) : zOk S (q + 1) 11 57 [(0, .ref (b0 + 1)), (5, .ref (pa l5))] [] w Post := by
  unfold cF_addNode_57 at hk
  refine zi_l rfl rfl rfl ?_
  refine zi_l rfl rfl rfl ?_
  cases c1 : cF_add (some l5) σ with
  | none => rw [c1] at hk; cases hk
  | some q1 =>
    obtain ⟨v2, m3⟩ := q1
    rw [c1] at hk
    dsimp only at hk
    refine zi_v rfl rfl rfl (h.sh (o := 1) (c := 2) (n := 2) (by decide)) rfl rfl rfl (zOk.deep (cT_add (q := 0) (by omega) c1 h (fun w h => ?_)) (by omega))
    cases hk
    exact zi_ri rfl rfl (k _ w h)
def cF_addNode (a1 : Int32) (a2 : Int32) (a3 : Int32) (a4 : Int32) (σ : cS) : Option (Int32 × cS) :=
  cPut (cnP σ) fun m1 => if (σ.2.1) < m1.2.1 then match cF_Part (σ.2.1) a1 m1 with | none => none | some (v4, m5) => match cF_takeParts (some (σ.2.1)) a2 a3 a4 m5 with | none => none | some (v7, m8) => if v7 = 0 then (some ((-1 : Int32), m8)) else (if (σ.2.1) < m8.2.1 then if (m8.1.1 1 8 (σ.2.1)) ≤ (30 : Int32) then (if (σ.2.1) < m8.2.1 then match cF_isStatement (σ.2.1) m8 with | none => none | some (v14, m15) => if ¬ v14 = 0 then (cF_addNode_57  (σ.2.1) m15) else (if (σ.2.1) < m15.2.1 then if (lg_cmp (m15.1.2.1 1 9 (σ.2.1)) (200 : Int64)) ≤ 0 then (cF_addNode_57  (σ.2.1) m15) else (some ((-1 : Int32), m15)) else none) else none) else (some ((-1 : Int32), m8)) else none) else none
theorem cT_addNode {S : zS} {q : Nat} {w w0 : zW} {Post : Option Value → zW → Prop} {b0 : Nat} {pa sa : Nat → Nat} {σ σ2 : cS} {v : Int32} {a1 : Int32} {a2 : Int32} {a3 : Int32} {a4 : Int32} (hq : 4 ≤ q) (hk : cF_addNode a1 a2 a3 a4 σ = some (v, σ2)) (h : cW b0 w0 pa sa σ w) (k : ∀ (pa2 : Nat → Nat) (w2 : zW), cW b0 w0 pa2 sa σ2 w2 → Post (some (.int v)) w2) : zOk S (q + 1) 11 0 (lv_args 0 [.ref (b0 + 1), .int a1, .int a2, .int a3, .int a4]) [] w Post := by
  unfold cF_addNode at hk
  refine zc_newP h rfl rfl (fun pa w h => ?_)
  generalize cnP σ = m1 at h hk
  rw [cPut_eq] at hk
  refine zi_a rfl rfl rfl ?_
  refine zi_l rfl rfl rfl ?_
  by_cases q2 : (σ.2.1) < m1.2.1
  case neg => rw [if_neg q2] at hk; cases hk
  rw [if_pos q2] at hk
  cases c3 : cF_Part (σ.2.1) a1 m1 with
  | none => rw [c3] at hk; cases hk
  | some q1 =>
    obtain ⟨v4, m5⟩ := q1
    rw [c3] at hk
    dsimp only at hk
    refine zi_i rfl rfl rfl rfl rfl (zOk.deep (cT_Part (q := 1) (by omega) c3 h (fun w h => ?_)) (by omega))
    refine zi_l rfl rfl rfl ?_
    refine zi_l rfl rfl rfl ?_
    refine zi_l rfl rfl rfl ?_
    refine zi_l rfl rfl rfl ?_
    refine zi_l rfl rfl rfl ?_
    refine zi_l rfl rfl rfl ?_
    cases c6 : cF_takeParts (some (σ.2.1)) a2 a3 a4 m5 with
    | none => rw [c6] at hk; cases hk
    | some q1 =>
      obtain ⟨v7, m8⟩ := q1
      rw [c6] at hk
      dsimp only at hk
      refine zi_v rfl rfl rfl (h.sh (o := 1) (c := 2) (n := 2) (by decide)) rfl rfl rfl (zOk.deep (cT_takeParts (q := 3) (by omega) c6 h (fun w h => ?_)) (by omega))
      refine zi_ifd rfl rfl rfl (tgt := 33) (by decide) (fun c9 => ?_) (fun c9 => ?_)
      · rw [if_pos c9] at hk
        refine zi_a (st' := .int (-1) :: _) rfl rfl rfl ?_
        cases hk
        exact zi_ri rfl rfl (k _ w h)
      · rw [if_neg c9] at hk
        refine zi_l rfl rfl rfl ?_
        by_cases q10 : (σ.2.1) < m8.2.1
        case neg => rw [if_neg q10] at hk; cases hk
        rw [if_pos q10] at hk
        refine zc_gP (v := .int (m8.1.1 1 8 (σ.2.1))) h rfl rfl rfl q10 rfl ?_
        refine zi_a (st' := .int 30 :: _) rfl rfl rfl ?_
        refine zi_ifd rfl rfl rfl (tgt := 35) (by decide) (fun c11 => ?_) (fun c11 => ?_)
        · rw [if_pos c11] at hk
          refine zi_l rfl rfl rfl ?_
          by_cases q12 : (σ.2.1) < m8.2.1
          case neg => rw [if_neg q12] at hk; cases hk
          rw [if_pos q12] at hk
          cases c13 : cF_isStatement (σ.2.1) m8 with
          | none => rw [c13] at hk; cases hk
          | some q1 =>
            obtain ⟨v14, m15⟩ := q1
            rw [c13] at hk
            dsimp only at hk
            refine zi_v rfl rfl rfl (h.shP q12) rfl rfl rfl (zOk.deep (cT_isStatement (q := 0) (by omega) c13 h (fun w h => ?_)) (by omega))
            refine zi_ifd rfl rfl rfl (tgt := 57) (by decide) (fun c16 => ?_) (fun c16 => ?_)
            · rw [if_pos c16] at hk
              refine zk_sub [0, 5] rfl rfl ?_
              exact cT_addNode_57 hq hk h k
            · rw [if_neg c16] at hk
              refine zi_l rfl rfl rfl ?_
              by_cases q17 : (σ.2.1) < m15.2.1
              case neg => rw [if_neg q17] at hk; cases hk
              rw [if_pos q17] at hk
              refine zc_gP (v := .long (m15.1.2.1 1 9 (σ.2.1))) h rfl rfl rfl q17 rfl ?_
              refine zi_c2 rfl rfl ?_
              refine zi_a rfl rfl rfl ?_
              refine zi_ifd rfl rfl rfl (tgt := 57) (by decide) (fun c18 => ?_) (fun c18 => ?_)
              · rw [if_pos c18] at hk
                refine zk_sub [0, 5] rfl rfl ?_
                exact cT_addNode_57 hq hk h k
              · rw [if_neg c18] at hk
                refine zi_a (st' := .int (-1) :: _) rfl rfl rfl ?_
                cases hk
                exact zi_ri rfl rfl (k _ w h)
        · rw [if_neg c11] at hk
          refine zi_a (st' := .int (-1) :: _) rfl rfl rfl ?_
          cases hk
          exact zi_ri rfl rfl (k _ w h)
def cF_leaf (a1 : Int32) (a2 : Int64) (σ : cS) : Option (Int32 × cS) :=
  match cF_addLeaf a1 a2 σ with | none => none | some (v2, m3) => some (v2, m3)
theorem cT_leaf {S : zS} {q : Nat} {w w0 : zW} {Post : Option Value → zW → Prop} {b0 : Nat} {pa sa : Nat → Nat} {σ σ2 : cS} {v : Int32} {a1 : Int32} {a2 : Int64} (hq : 3 ≤ q) (hk : cF_leaf a1 a2 σ = some (v, σ2)) (h : cW b0 w0 pa sa σ w) (k : ∀ (pa2 : Nat → Nat) (w2 : zW), cW b0 w0 pa2 sa σ2 w2 → Post (some (.int v)) w2) : zOk S (q + 1) 6 0 (lv_args 0 [.ref (b0 + 0), .int a1, .long a2]) [] w Post := by
  unfold cF_leaf at hk
  refine zi_l rfl rfl rfl ?_
  refine zc_gf (c := 6) (k := 0) (o := 0) (n := 2) (t := 1) h rfl rfl rfl (by decide) (by decide) ?_
  refine zi_l rfl rfl rfl ?_
  refine zi_l rfl rfl rfl ?_
  cases c1 : cF_addLeaf a1 a2 σ with
  | none => rw [c1] at hk; cases hk
  | some q1 =>
    obtain ⟨v2, m3⟩ := q1
    rw [c1] at hk
    dsimp only at hk
    refine zi_v rfl rfl rfl (h.sh (o := 1) (c := 2) (n := 2) (by decide)) rfl rfl rfl (zOk.deep (cT_addLeaf (q := 2) (by omega) c1 h (fun pa w h => ?_)) (by omega))
    cases hk
    exact zi_ri rfl rfl (k _ w h)
def cF_node (a1 : Int32) (a2 : Int32) (a3 : Int32) (a4 : Int32) (σ : cS) : Option (Int32 × cS) :=
  match cF_addNode a1 a2 a3 a4 σ with | none => none | some (v2, m3) => some (v2, m3)
theorem cT_node {S : zS} {q : Nat} {w w0 : zW} {Post : Option Value → zW → Prop} {b0 : Nat} {pa sa : Nat → Nat} {σ σ2 : cS} {v : Int32} {a1 : Int32} {a2 : Int32} {a3 : Int32} {a4 : Int32} (hq : 5 ≤ q) (hk : cF_node a1 a2 a3 a4 σ = some (v, σ2)) (h : cW b0 w0 pa sa σ w) (k : ∀ (pa2 : Nat → Nat) (w2 : zW), cW b0 w0 pa2 sa σ2 w2 → Post (some (.int v)) w2) : zOk S (q + 1) 10 0 (lv_args 0 [.ref (b0 + 0), .int a1, .int a2, .int a3, .int a4]) [] w Post := by
  unfold cF_node at hk
  refine zi_l rfl rfl rfl ?_
  refine zc_gf (c := 6) (k := 0) (o := 0) (n := 2) (t := 1) h rfl rfl rfl (by decide) (by decide) ?_
  refine zi_l rfl rfl rfl ?_
  refine zi_l rfl rfl rfl ?_
  refine zi_l rfl rfl rfl ?_
  refine zi_l rfl rfl rfl ?_
  cases c1 : cF_addNode a1 a2 a3 a4 σ with
  | none => rw [c1] at hk; cases hk
  | some q1 =>
    obtain ⟨v2, m3⟩ := q1
    rw [c1] at hk
    dsimp only at hk
    refine zi_v rfl rfl rfl (h.sh (o := 1) (c := 2) (n := 2) (by decide)) rfl rfl rfl (zOk.deep (cT_addNode (q := 4) (by omega) c1 h (fun pa w h => ?_)) (by omega))
    cases hk
    exact zi_ri rfl rfl (k _ w h)
def cF_lay (a0 : Nat) (a1 : Option Nat) (σ : cS) : Option (Unit × cS) :=
  match a1 with | none => (none) | some i1 => (if i1 < σ.2.1 then if a0 < σ.2.2.1 then cPut (cu1 σ 3 0 a0 (σ.1.1 1 0 i1)) fun m3 => if i1 < m3.2.1 then if a0 < m3.2.2.1 then cPut (cu1 m3 3 1 a0 (m3.1.1 1 1 i1)) fun m6 => if i1 < m6.2.1 then if a0 < m6.2.2.1 then cPut (cu1 m6 3 2 a0 (m6.1.1 1 2 i1)) fun m9 => if i1 < m9.2.1 then if a0 < m9.2.2.1 then if cin (m9.1.2.2 1 4 i1) m9.2.1 = true then cPut (cu3 m9 3 3 a0 (m9.1.2.2 1 4 i1)) fun m13 => if i1 < m13.2.1 then if a0 < m13.2.2.1 then if cin (m13.1.2.2 1 5 i1) m13.2.1 = true then cPut (cu3 m13 3 4 a0 (m13.1.2.2 1 5 i1)) fun m17 => if a0 < m17.2.2.1 then cPut (cu1 m17 3 7 a0 (0 : Int32)) fun m19 => some ((), m19) else none else none else none else none else none else none else none else none else none else none else none else none else none)
theorem cT_lay {S : zS} {q : Nat} {w w0 : zW} {Post : Option Value → zW → Prop} {b0 : Nat} {pa sa : Nat → Nat} {σ σ2 : cS} {v : Unit} {a0 : Nat} {a1 : Option Nat} (hq : 0 ≤ q) (hk : cF_lay a0 a1 σ = some (v, σ2)) (h : cW b0 w0 pa sa σ w) (k : ∀ w2, cW b0 w0 pa sa σ2 w2 → Post none w2) : zOk S (q + 1) 29 0 (lv_args 0 [.ref (sa a0), cr pa a1]) [] w Post := by
  unfold cF_lay at hk
  cases a1 with
  | none =>
    dsimp only at hk
    refine zi_l rfl rfl rfl ?_
    refine zi_l rfl rfl rfl ?_
    cases hk
  | some i1 =>
    dsimp only at hk
    refine zi_l rfl rfl rfl ?_
    refine zi_l rfl rfl rfl ?_
    by_cases q1 : i1 < σ.2.1
    case neg => rw [if_neg q1] at hk; cases hk
    rw [if_pos q1] at hk
    refine zc_gP (v := .int (σ.1.1 1 0 i1)) h rfl rfl rfl q1 rfl ?_
    by_cases q2 : a0 < σ.2.2.1
    case neg => rw [if_neg q2] at hk; cases hk
    rw [if_pos q2] at hk
    refine zc_pS1 h rfl rfl rfl q2 rfl ⟨rfl, rfl, Or.inl rfl⟩ (fun w h => ?_)
    generalize cu1 σ 3 0 a0 (σ.1.1 1 0 i1) = m3 at h hk
    rw [cPut_eq] at hk
    refine zi_l rfl rfl rfl ?_
    refine zi_l rfl rfl rfl ?_
    by_cases q4 : i1 < m3.2.1
    case neg => rw [if_neg q4] at hk; cases hk
    rw [if_pos q4] at hk
    refine zc_gP (v := .int (m3.1.1 1 1 i1)) h rfl rfl rfl q4 rfl ?_
    by_cases q5 : a0 < m3.2.2.1
    case neg => rw [if_neg q5] at hk; cases hk
    rw [if_pos q5] at hk
    refine zc_pS1 h rfl rfl rfl q5 rfl ⟨rfl, rfl, Or.inl rfl⟩ (fun w h => ?_)
    generalize cu1 m3 3 1 a0 (m3.1.1 1 1 i1) = m6 at h hk
    rw [cPut_eq] at hk
    refine zi_l rfl rfl rfl ?_
    refine zi_l rfl rfl rfl ?_
    by_cases q7 : i1 < m6.2.1
    case neg => rw [if_neg q7] at hk; cases hk
    rw [if_pos q7] at hk
    refine zc_gP (v := .int (m6.1.1 1 2 i1)) h rfl rfl rfl q7 rfl ?_
    by_cases q8 : a0 < m6.2.2.1
    case neg => rw [if_neg q8] at hk; cases hk
    rw [if_pos q8] at hk
    refine zc_pS1 h rfl rfl rfl q8 rfl ⟨rfl, rfl, Or.inl rfl⟩ (fun w h => ?_)
    generalize cu1 m6 3 2 a0 (m6.1.1 1 2 i1) = m9 at h hk
    rw [cPut_eq] at hk
    refine zi_l rfl rfl rfl ?_
    refine zi_l rfl rfl rfl ?_
    by_cases q10 : i1 < m9.2.1
    case neg => rw [if_neg q10] at hk; cases hk
    rw [if_pos q10] at hk
    refine zc_gP (v := cr pa (m9.1.2.2 1 4 i1)) h rfl rfl rfl q10 rfl ?_
    by_cases q11 : a0 < m9.2.2.1
    case neg => rw [if_neg q11] at hk; cases hk
    rw [if_pos q11] at hk
    by_cases q12 : cin (m9.1.2.2 1 4 i1) m9.2.1 = true
    case neg => rw [if_neg q12] at hk; cases hk
    rw [if_pos q12] at hk
    refine zc_pS3 h rfl rfl rfl q11 rfl (c_pf (by decide)) q12 (fun w h => ?_)
    generalize cu3 m9 3 3 a0 (m9.1.2.2 1 4 i1) = m13 at h hk
    rw [cPut_eq] at hk
    refine zi_l rfl rfl rfl ?_
    refine zi_l rfl rfl rfl ?_
    by_cases q14 : i1 < m13.2.1
    case neg => rw [if_neg q14] at hk; cases hk
    rw [if_pos q14] at hk
    refine zc_gP (v := cr pa (m13.1.2.2 1 5 i1)) h rfl rfl rfl q14 rfl ?_
    by_cases q15 : a0 < m13.2.2.1
    case neg => rw [if_neg q15] at hk; cases hk
    rw [if_pos q15] at hk
    by_cases q16 : cin (m13.1.2.2 1 5 i1) m13.2.1 = true
    case neg => rw [if_neg q16] at hk; cases hk
    rw [if_pos q16] at hk
    refine zc_pS3 h rfl rfl rfl q15 rfl (c_pf (by decide)) q16 (fun w h => ?_)
    generalize cu3 m13 3 4 a0 (m13.1.2.2 1 5 i1) = m17 at h hk
    rw [cPut_eq] at hk
    refine zi_l rfl rfl rfl ?_
    refine zi_a (st' := .int 0 :: _) rfl rfl rfl ?_
    by_cases q18 : a0 < m17.2.2.1
    case neg => rw [if_neg q18] at hk; cases hk
    rw [if_pos q18] at hk
    refine zc_pS1 h rfl rfl rfl q18 rfl ⟨rfl, rfl, Or.inl rfl⟩ (fun w h => ?_)
    generalize cu1 m17 3 7 a0 (0 : Int32) = m19 at h hk
    rw [cPut_eq] at hk
    cases hk
    exact zi_ret rfl rfl rfl (k w h)
