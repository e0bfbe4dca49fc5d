/-! p1: one call on a fresh object: what class and reference answer there -/
def lj (x y : Int32) : Int64 := (x.toInt64 <<< ((32 : Int32).toInt64 &&& 63)) ||| (y.toInt64 &&& 4294967295)
/-- the law's locals in its loop -/
def oneL (b b0 : Nat) (i : Int32) : List (Nat × Value) := [(0, .ref b), (1, .ref (b0 + 0)), (2, .ref (b0 + 16)), (3, .int i)]
def oneP (b0 : Nat) (v : Option Value) (w : zW) : Prop := v = some (.int 1) ∧ w.1.1 ≤ b0 + 600000 ∧ w.1.2 ≤ 7302250
/-- the world behind the constructors -/
def oneAt (b b0 z : Nat) (w : zW) : Prop := w.1 = (b0 + 44, z) ∧ z ≤ 100000 ∧ b < b0 ∧ w.2.1 b = none ∧ w.2.1 (b0 + 0) = some (6, 2) ∧ mRep (b0 + 16) mu0 w ∧ cW b0 w (fun i => i) (fun i => i) (sg0 (b0 + 44, z)) w
/-- what the law's end needs -/
def oneE (b b0 : Nat) (w : zW) : Prop := w.2.1 b = none ∧ w.1.1 ≤ b0 + 600000 ∧ w.1.2 ≤ 7302250
theorem one_ld {b d mi pc n k : Nat} {xs : Nat → Int32} {i : Int32} {L : List (Nat × Value)} {r : List Value} {w : zW} {Post : Option Value → zW → Prop} (hd : zI mi pc = some (.iaload, 1)) (hs : w.2.1 b = none) (hi : zix i n) (hk : i.toNatClampNeg = k) (kk : zOk (b, n, xs) d mi (pc + 1) L (.int (xs k) :: r) w Post) : zOk (b, n, xs) d mi pc L (.int i :: .ref b :: r) w Post := by
  subst hk
  exact zi_ildS hd hs hi kk
theorem one_after {b b0 z : Nat} {pa sa : Nat → Nat} {σ : cS} {w w2 : zW} (h : oneAt b b0 z w) (h2 : cW b0 w pa sa σ w2) (hk : w.1.1 ≤ w2.1.1 ∧ ∀ a, a < w.1.1 → w2.2.1 a = w.2.1 a) : w2.2.1 b = none ∧ mW (b0 + 16) w2 mu0 w2 ∧ w2.1 = σ.2.2.2 := by
  obtain ⟨h1, -, h3, h4, -, h6, -⟩ := h
  refine ⟨?_, ⟨h6.same (fun a q1 q2 => h2.2.1 a q1 (by omega)), rfl, fun _ _ => ⟨rfl, rfl⟩⟩, h2.1.1⟩
  rw [hk.2 b (by rw [h1]; show b < b0 + 44; omega)]
  exact h4
theorem one_in {b b0 z : Nat} {σ : cS} {μ : mS} {w w2 w3 : zW} (h : oneAt b b0 z w) (h3 : mW (b0 + 16) w2 μ w3) (hn : w2.2.1 b = none) (hz : w2.1 = σ.2.2.2) (hs1 : σ.2.2.2.1 ≤ (b0 + 44, z).1 + 10) (hs2 : σ.2.2.2.2 ≤ (b0 + 44, z).2 + 100) : oneE b b0 w3 := by
  have hb := h.2.2.1
  have hq := h.2.1
  refine ⟨?_, ?_, ?_⟩
  · rw [(h3.2.2 b (Or.inl (by omega))).1]; exact hn
  · rw [h3.2.1, hz]; simp only at hs1; omega
  · rw [h3.2.1, hz]; simp only at hs2; omega
set_option maxRecDepth 100000 in
theorem one_ret {b b0 L : Nat} {xs : Nat → Int32} {w : zW} {l : List (Nat × Value)} (h : oneE b b0 w) : zOk (b, L, xs) 1000 109 630 l [] w (oneP b0) := by
  refine zi_a (st' := .int 1 :: _) rfl rfl rfl ?_
  exact zi_rz rfl rfl (Or.inr rfl) ⟨rfl, h.2.1, h.2.2⟩
set_option maxRecDepth 100000 in
theorem one_end {b b0 : Nat} {xs : Nat → Int32} {w : zW} (h : oneE b b0 w) : zOk (b, 5, xs) 1000 109 624 (oneL b b0 0) [] w (oneP b0) := by
  unfold oneL
  refine zi_l (L' := oneL b b0 5) rfl rfl rfl ?_
  refine zi_go (tgt := 18) rfl rfl rfl rfl ?_
  unfold oneL
  refine zi_l rfl rfl rfl ?_
  refine zi_l rfl rfl rfl ?_
  refine zi_lenS rfl h.1 ?_
  refine zi_a (st' := .int 5 :: _) rfl rfl rfl ?_
  refine zi_a (st' := .int 0 :: _) rfl rfl rfl ?_
  refine zi_ifd (tgt := 630) rfl rfl rfl rfl (fun _ => one_ret h) (fun q => absurd (by decide) q)
set_option maxRecDepth 100000 in
theorem one_few {b b0 z L : Nat} {xs : Nat → Int32} {w : zW} (h : oneAt b b0 z w) (hL : Int32.ofNat L - 5 < 0) : zOk (b, L, xs) 1000 109 18 (oneL b b0 0) [] w (oneP b0) := by
  unfold oneL
  refine zi_l rfl rfl rfl ?_
  refine zi_l rfl rfl rfl ?_
  refine zi_lenS rfl h.2.2.2.1 ?_
  refine zi_a (st' := .int 5 :: _) rfl rfl rfl ?_
  refine zi_a (st' := .int (Int32.ofNat L - 5) :: _) rfl rfl rfl ?_
  refine zi_ifd (tgt := 630) rfl rfl rfl rfl (fun _ => one_ret ⟨h.2.2.2.1, ?_, ?_⟩) (fun q => absurd hL q)
  · rw [h.1]; show b0 + 44 ≤ _; omega
  · rw [h.1]; have := h.2.1; show z ≤ _; omega
theorem one_15 (y : Int32) : y &&& 15 = 0 ∨ y &&& 15 = 1 ∨ y &&& 15 = 2 ∨ y &&& 15 = 3 ∨ y &&& 15 = 4 ∨ y &&& 15 = 5 ∨ y &&& 15 = 6 ∨ y &&& 15 = 7 ∨ y &&& 15 = 8 ∨ y &&& 15 = 9 ∨ y &&& 15 = 10 ∨ y &&& 15 = 11 ∨ y &&& 15 = 12 ∨ y &&& 15 = 13 ∨ y &&& 15 = 14 ∨ y &&& 15 = 15 := by
  have h : (y &&& 15).toBitVec.toNat < 16 := by
    rw [Int32.toBitVec_and, BitVec.toNat_and]
    exact Nat.and_lt_two_pow (n := 4) _ (by decide)
  generalize y &&& 15 = x at h ⊢
  have key : ∀ c : Int32, x.toBitVec.toNat = c.toBitVec.toNat → x = c := fun c hc => Int32.toBitVec_inj.1 (BitVec.eq_of_toNat_eq hc)
  have e : x.toBitVec.toNat = 0 ∨ x.toBitVec.toNat = 1 ∨ x.toBitVec.toNat = 2 ∨ x.toBitVec.toNat = 3 ∨ x.toBitVec.toNat = 4 ∨ x.toBitVec.toNat = 5 ∨ x.toBitVec.toNat = 6 ∨ x.toBitVec.toNat = 7 ∨ x.toBitVec.toNat = 8 ∨ x.toBitVec.toNat = 9 ∨ x.toBitVec.toNat = 10 ∨ x.toBitVec.toNat = 11 ∨ x.toBitVec.toNat = 12 ∨ x.toBitVec.toNat = 13 ∨ x.toBitVec.toNat = 14 ∨ x.toBitVec.toNat = 15 := by omega
  rcases e with e | e | e | e | e | e | e | e | e | e | e | e | e | e | e | e
  · exact Or.inl (key 0 e)
  · exact Or.inr (Or.inl (key 1 e))
  · exact Or.inr (Or.inr (Or.inl (key 2 e)))
  · exact Or.inr (Or.inr (Or.inr (Or.inl (key 3 e))))
  · exact Or.inr (Or.inr (Or.inr (Or.inr (Or.inl (key 4 e)))))
  · exact Or.inr (Or.inr (Or.inr (Or.inr (Or.inr (Or.inl (key 5 e))))))
  · exact Or.inr (Or.inr (Or.inr (Or.inr (Or.inr (Or.inr (Or.inl (key 6 e)))))))
  · exact Or.inr (Or.inr (Or.inr (Or.inr (Or.inr (Or.inr (Or.inr (Or.inl (key 7 e))))))))
  · exact Or.inr (Or.inr (Or.inr (Or.inr (Or.inr (Or.inr (Or.inr (Or.inr (Or.inl (key 8 e)))))))))
  · exact Or.inr (Or.inr (Or.inr (Or.inr (Or.inr (Or.inr (Or.inr (Or.inr (Or.inr (Or.inl (key 9 e))))))))))
  · exact Or.inr (Or.inr (Or.inr (Or.inr (Or.inr (Or.inr (Or.inr (Or.inr (Or.inr (Or.inr (Or.inl (key 10 e)))))))))))
  · exact Or.inr (Or.inr (Or.inr (Or.inr (Or.inr (Or.inr (Or.inr (Or.inr (Or.inr (Or.inr (Or.inr (Or.inl (key 11 e))))))))))))
  · exact Or.inr (Or.inr (Or.inr (Or.inr (Or.inr (Or.inr (Or.inr (Or.inr (Or.inr (Or.inr (Or.inr (Or.inr (Or.inl (key 12 e)))))))))))))
  · exact Or.inr (Or.inr (Or.inr (Or.inr (Or.inr (Or.inr (Or.inr (Or.inr (Or.inr (Or.inr (Or.inr (Or.inr (Or.inr (Or.inl (key 13 e))))))))))))))
  · exact Or.inr (Or.inr (Or.inr (Or.inr (Or.inr (Or.inr (Or.inr (Or.inr (Or.inr (Or.inr (Or.inr (Or.inr (Or.inr (Or.inr (Or.inl (key 14 e)))))))))))))))
  · exact Or.inr (Or.inr (Or.inr (Or.inr (Or.inr (Or.inr (Or.inr (Or.inr (Or.inr (Or.inr (Or.inr (Or.inr (Or.inr (Or.inr (Or.inr (key 15 e)))))))))))))))
theorem lg_same (v : Int64) : lg_cmp v v = 0 := by
  unfold lg_cmp
  simp
/-! what a place is, for both -/
theorem one_place (a : Int32) (μ : mS) : mF_isPlace a μ = some (cputb a, μ) := by
  unfold mF_isPlace cputb
  by_cases h0 : a < 0
  · rw [if_pos h0, if_pos (Or.inl h0)]
  · rw [if_neg h0]
    by_cases h1 : (16 : Int32) ≤ a
    · rw [if_pos h1, if_pos (Or.inr (show nI 16 ≤ a from h1))]
    · rw [if_neg h1, if_neg (fun q : a < 0 ∨ nI 16 ≤ a => q.elim h0 h1)]
theorem one_b (a : Int32) : cputb a = 0 ∨ cputb a = 1 := by
  unfold cputb
  split
  · exact Or.inl rfl
  · exact Or.inr rfl
theorem one_ix {a : Int32} (h : ¬ cputb a = 0) : zix a 16 := by
  unfold cputb at h
  split at h
  · exact absurd rfl h
  · rename_i q
    exact zix_of (by decide) (fun e => q (Or.inl e)) (fun e => q (Or.inr e))
theorem one_1 {a : Int32} (h : ¬ cputb a = 0) : cputb a = 1 := (one_b a).resolve_left h
def oneR {α : Type} (z : Nat × Nat) (c : Option (α × cS)) (m : Option (α × mS)) : Prop := ∃ v σ2 μ2, c = some (v, σ2) ∧ m = some (v, μ2) ∧ σ2.2.2.2.1 ≤ z.1 + 10 ∧ σ2.2.2.2.2 ≤ z.2 + 100
theorem oneR.of {α : Type} {z : Nat × Nat} {c : Option (α × cS)} {m : Option (α × mS)} {v : α} {σ2 : cS} {μ2 : mS} (h1 : c = some (v, σ2)) (h2 : m = some (v, μ2)) (h3 : σ2.2 = (sg0 z).2) : oneR z c m := by
  refine ⟨v, σ2, μ2, h1, h2, ?_, ?_⟩
  · rw [h3]; exact Nat.le_add_right _ _
  · rw [h3]; exact Nat.le_add_right _ _
def c0R : Option Nat → cS → Option (Int64 × cS) := fun _ _ => none
def c0G : Option Nat → cS → Option (Int32 × cS) := fun _ _ => none
def c0L : Option Nat → cS → Option (Option Nat × cS) := fun _ _ => none
def m0A : Int32 → mS → Option (Int32 × mS) := fun _ _ => none
def m0B : Int32 → Int32 → mS → Option (Int32 × mS) := fun _ _ _ => none
def m0U : Int32 → mS → Option (Unit × mS) := fun _ _ => none
theorem one_tick (z : Nat × Nat) (a : Int32) : oneR z (cF_tick c0R c0G c0G a (sg0 z)) (mF_tick m0A m0A a mu0) := oneR.of (v := -1) (σ2 := sg0 z) (μ2 := mu0) rfl rfl rfl
theorem one_stop (z : Nat × Nat) : oneR z (cF_stop c0G (sg0 z)) (mF_stop m0U mu0) := oneR.of (v := -1) (σ2 := sg0 z) (μ2 := mu0) rfl rfl rfl
theorem one_hold (z : Nat × Nat) (a : Int32) : oneR z (cF_hold a (sg0 z)) (mF_hold a mu0) := oneR.of (v := 0) (σ2 := sg0 z) (μ2 := mu0) rfl rfl rfl
theorem one_step (z : Nat × Nat) (a : Int32) : oneR z (cF_step a (sg0 z)) (mF_step m0B a mu0) := oneR.of (v := -1) (σ2 := sg0 z) (μ2 := mu0) rfl rfl rfl
theorem one_answer (z : Nat × Nat) (a : Int64) : oneR z (cF_answer a (sg0 z)) (mF_answer m0B a mu0) := oneR.of (v := 0) (σ2 := sg0 z) (μ2 := mu0) rfl rfl rfl
theorem one_alarm (z : Nat × Nat) (a c : Int32) : oneR z (cF_alarm a c (sg0 z)) (mF_alarm a c mu0) := by
  refine oneR.of (v := -1) (σ2 := sg0 z) (μ2 := mu0) ?_ rfl rfl
  unfold cF_alarm cF_alarmAt
  by_cases h0 : a < 0
  · rw [if_pos h0]
  · rw [if_neg h0, if_pos (show (sg0 z).1.1 0 4 0 ≤ a from Int32.not_lt.1 h0)]
theorem one_closed (z : Nat × Nat) (a : Int32) : oneR z (cF_closed a (sg0 z)) (mF_closed a mu0) := by
  refine oneR.of (v := -1) (σ2 := sg0 z) (μ2 := mu0) ?_ rfl rfl
  unfold cF_closed cF_closedAt
  by_cases h0 : a < 0
  · rw [if_pos h0]
  · rw [if_neg h0, if_pos (show (sg0 z).1.1 0 5 0 ≤ a from Int32.not_lt.1 h0)]
theorem one_get {z : Nat × Nat} {c : Nat} {a : Int32} : cget (sg0 z) c a = 0 := by
  unfold cget
  split <;> rfl
theorem one_value (z : Nat × Nat) (a : Int32) : oneR z (cF_value a (sg0 z)) (mF_value a mu0) := by
  refine oneR.of (v := 0) (σ2 := sg0 z) (μ2 := mu0) (by unfold cF_value; rw [one_get]) ?_ rfl
  unfold mF_value
  rw [one_place]
  dsimp only
  by_cases h : cputb a = 0
  · rw [if_pos h]
  · rw [if_neg h, if_pos (one_ix h)]; rfl
theorem one_output (z : Nat × Nat) (a : Int32) : oneR z (cF_output a (sg0 z)) (mF_output a mu0) := by
  refine oneR.of (v := 0) (σ2 := sg0 z) (μ2 := mu0) ?_ ?_ rfl
  · unfold cF_output
    rw [if_pos (show ¬ (sg0 z).1.1 4 5 0 = 2 from (by decide : ¬ (-1 : Int32) = 2))]
    unfold cF_output_42
    rw [one_get]
  · unfold mF_output
    rw [one_place]
    dsimp only
    by_cases h : cputb a = 0
    · rw [if_neg (fun q => q h)]
    · rw [if_pos h, if_pos (show mu0.1 24 0 = 0 from rfl)]
      unfold mF_output_42
      rw [if_pos (one_ix h)]; rfl
theorem one_signal (z : Nat × Nat) (a : Int32) (v : Int64) : oneR z (cF_signal a v (sg0 z)) (mF_signal a v mu0) := by
  by_cases h : cputb a = 0
  · refine oneR.of (v := 0) (σ2 := cput (sg0 z) 11 a v) (μ2 := mu0) ?_ ?_ (by unfold cput; split <;> rfl)
    · unfold cF_signal
      rw [cPut_eq, h, if_pos (Or.inl rfl)]
    · unfold mF_signal
      rw [one_place]
      dsimp only
      rw [if_neg (fun q => q h)]
  · refine oneR.of (v := 1) (σ2 := cput (sg0 z) 11 a v) (μ2 := mu2 mu0 19 a.toNatClampNeg v) ?_ ?_ (by unfold cput; split <;> rfl)
    · unfold cF_signal
      rw [cPut_eq, one_1 h, if_pos (Or.inr rfl)]
    · unfold mF_signal
      rw [one_place]
      dsimp only
      rw [if_pos h, if_pos (one_ix h)]
      rfl
theorem one_safe (z : Nat × Nat) (a : Int32) (v : Int64) : oneR z (cF_safe a v (sg0 z)) (mF_safe a v mu0) := by
  by_cases h : cputb a = 0
  · refine oneR.of (v := 0) (σ2 := sg0 z) (μ2 := mu0) ?_ ?_ rfl
    · unfold cF_safe cF_tellSafe
      have h2 : a < 0 ∨ ¬ a < Int32.ofNat 16 := by
        unfold cputb at h
        split at h
        · rename_i q
          exact q.elim Or.inl (fun e => Or.inr (Int32.not_lt.2 e))
        · exact absurd h (by decide)
      by_cases h0 : a < 0
      · rw [if_pos h0]; rfl
      · rw [if_neg h0, if_neg (h2.resolve_left h0)]; rfl
    · unfold mF_safe
      rw [one_place]
      dsimp only
      rw [if_neg (fun q => q h)]
  · have hi := one_ix h
    have h0 : ¬ a < 0 := fun e => hi (Or.inl e)
    have h1 : a < Int32.ofNat 16 := by
      unfold cputb at h
      split at h
      · exact absurd rfl h
      · rename_i q
        exact Int32.not_le.1 (fun e => q (Or.inr e))
    refine oneR.of (v := 1) (σ2 := cput (cu1 (sg0 z) 15 0 a.toNatClampNeg 1) 14 a v) (μ2 := mu1 (mu2 mu0 22 a.toNatClampNeg v) 23 a.toNatClampNeg 1) ?_ ?_ (by unfold cput; split <;> rfl)
    · unfold cF_safe cF_tellSafe
      rw [if_neg h0, if_pos h1, if_pos hi]
      unfold cPut
      rw [one_1 h]
      rfl
    · unfold mF_safe
      rw [one_place]
      dsimp only
      rw [if_pos h, if_pos hi, mPut_eq, if_pos hi, mPut_eq]
theorem one_at {σ : cS} (hs : σ.1.1 2 1 0 = 0) (a : Int32) : cF_partAt a σ = some (none, σ) := by
  unfold cF_partAt
  by_cases h0 : a < 0
  · rw [if_pos h0]
  · rw [if_neg h0, if_pos (by rw [hs]; exact Int32.not_lt.1 h0)]
theorem one_start (z : Nat × Nat) (a : Int32) : oneR z (cF_start c0L a (sg0 z)) (mF_start m0A a mu0) := by
  refine oneR.of (v := -1) (σ2 := sg0 z) (μ2 := mu0) ?_ ?_ rfl
  · unfold cF_start
    rw [one_at rfl]
    dsimp only
    rw [if_pos (Nat.le_refl _)]
  · unfold mF_start mF_isStatement mF_isNode
    by_cases h0 : a < 0
    · rw [if_pos h0]; rfl
    · rw [if_neg h0, if_pos (show mu0.1 0 0 ≤ a from Int32.not_lt.1 h0)]; rfl
