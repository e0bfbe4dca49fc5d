/-! small methods that both sides use -/
section ZL
variable {S : zS} {d : Nat} {w : zW} {Post : Option Value → zW → Prop}
theorem zix_of {i : Int32} {n : Nat} (hn : n < 2 ^ 31) (h0 : ¬ i < 0) (h1 : ¬ Int32.ofNat n ≤ i) : zix i n := by
  rcases pk_ix i hn with h | h | ⟨j, hj, rfl⟩
  · exact absurd h h0
  · exact absurd h h1
  · exact vp_in_nI hj hn
theorem c_get {row n : Nat} {f : Nat → Int64} {k : Int32} (hs : w.2.1 row = some (101, n)) (hn : n < 2 ^ 31) (hf : ∀ i, i < n → w.2.2 row i = .long (f i)) (hP : Post (some (.long (if k < 0 ∨ nI n ≤ k then 0 else f k.toNatClampNeg))) w) : zOk S d 34 0 (lv_args 0 [.ref row, .int k]) [] w Post := by
  refine zi_l rfl rfl rfl ?_
  refine zi_ifd rfl rfl rfl (tgt := 16) (by decide) (fun h => ?_) (fun h => ?_)
  · rw [if_pos (Or.inl h)] at hP
    refine zi_a rfl rfl rfl ?_
    exact zi_rl rfl rfl hP
  · refine zi_l rfl rfl rfl ?_
    refine zi_l rfl rfl rfl ?_
    refine zi_len rfl hs (by decide) ?_
    refine zi_ifd rfl rfl rfl (tgt := 16) (by decide) (fun h2 => ?_) (fun h2 => ?_)
    · rw [if_pos (Or.inr (show nI n ≤ k from h2))] at hP
      refine zi_a rfl rfl rfl ?_
      exact zi_rl rfl rfl hP
    · rw [if_neg (fun q => q.elim h h2)] at hP
      have hi := zix_of hn h h2
      refine zi_l rfl rfl rfl ?_
      refine zi_l rfl rfl rfl ?_
      refine zi_lld rfl hs hi (hf _ (Nat.not_le.mp fun q => hi (Or.inr q))) ?_
      refine zi_go rfl rfl rfl (tgt := 17) (by decide) ?_
      exact zi_rl rfl rfl hP
theorem c_put {row n : Nat} {k : Int32} {v : Int64} (hs : w.2.1 row = some (101, n)) (hn : n < 2 ^ 31) (hP : Post (some (.int (if k < 0 ∨ nI n ≤ k then 0 else 1))) (if k < 0 ∨ nI n ≤ k then w else zset w row k.toNatClampNeg (.long v))) : zOk S d 21 0 (lv_args 0 [.ref row, .int k, .long v]) [] w Post := by
  refine zi_l rfl rfl rfl ?_
  refine zi_ifd rfl rfl rfl (tgt := 10) (by decide) (fun h => ?_) (fun h => ?_)
  · rw [if_pos (Or.inl h), if_pos (Or.inl h)] at hP
    refine zi_a rfl rfl rfl ?_
    exact zi_rz rfl rfl (Or.inl rfl) hP
  · refine zi_l rfl rfl rfl ?_
    refine zi_l rfl rfl rfl ?_
    refine zi_len rfl hs (by decide) ?_
    refine zi_ifd rfl rfl rfl (tgt := 12) (by decide) (fun h2 => ?_) (fun h2 => ?_)
    · have h3 : ¬ nI n ≤ k := Int32.not_le.mpr h2
      rw [if_neg (fun q => q.elim h h3), if_neg (fun q => q.elim h h3)] at hP
      have hi := zix_of hn h h3
      refine zi_l rfl rfl rfl ?_
      refine zi_l rfl rfl rfl ?_
      refine zi_l rfl rfl rfl ?_
      refine zi_lst rfl hs hi ?_
      refine zi_a rfl rfl rfl ?_
      exact zi_rz rfl rfl (Or.inr rfl) hP
    · have h3 : nI n ≤ k := Int32.not_lt.mp h2
      rw [if_pos (Or.inr h3), if_pos (Or.inr h3)] at hP
      refine zi_a rfl rfl rfl ?_
      exact zi_rz rfl rfl (Or.inl rfl) hP
theorem c_max {x y : Int32} (hP : Post (some (.int (if x < y then y else x))) w) : zOk S d 16 0 (lv_args 0 [.int x, .int y]) [] w Post := by
  refine zi_l rfl rfl rfl ?_
  refine zi_l rfl rfl rfl ?_
  refine zi_ifd rfl rfl rfl (tgt := 9) (by decide) (fun h => ?_) (fun h => ?_)
  · rw [if_pos h] at hP
    refine zi_l rfl rfl rfl ?_
    exact zi_ri rfl rfl hP
  · rw [if_neg h] at hP
    refine zi_l rfl rfl rfl ?_
    refine zi_go rfl rfl rfl (tgt := 10) (by decide) ?_
    exact zi_ri rfl rfl hP
/-- a Spot's stage is field 7 -/
theorem c_renew0 (hP : Post none w) : zOk S d 41 0 (lv_args 0 [.null]) [] w Post := by
  refine zi_l rfl rfl rfl ?_
  refine zi_go rfl rfl rfl (tgt := 9) (by decide) ?_
  exact zi_ret rfl rfl rfl hP
theorem c_renew {a N : Nat} (hs : w.2.1 a = some (3, N)) (hP : Post none (zset w a 7 (.int 0))) : zOk S d 41 0 (lv_args 0 [.ref a]) [] w Post := by
  refine zi_l rfl rfl rfl ?_
  refine zi_stay rfl rfl rfl (tgt := 9) (by decide) ?_
  refine zi_l rfl rfl rfl ?_
  refine zi_a rfl rfl rfl ?_
  refine zi_put rfl rfl hs ⟨rfl, rfl, Or.inl rfl⟩ ?_
  exact zi_ret rfl rfl rfl hP
/-- Math.floorDiv, for a divisor that is not 0 -/
def fdv (x y : Int64) : Int64 := if lg_cmp (x ^^^ y) 0 < 0 ∧ ¬ lg_cmp (x / y * y) x = 0 then x / y - 1 else x / y
theorem c_floorDiv {x y : Int64} (hy : ¬ y = 0) (hP : Post (some (.long (fdv x y))) w) : zOk S d 45 0 (lv_args 0 [.long x, .long y]) [] w Post := by
  unfold fdv at hP
  refine zi_l rfl rfl rfl ?_
  refine zi_l rfl rfl rfl ?_
  refine zi_a rfl rfl (if_neg hy) ?_
  refine zi_l rfl rfl rfl ?_
  refine zi_l rfl rfl rfl ?_
  refine zi_l rfl rfl rfl ?_
  refine zi_a rfl rfl rfl ?_
  refine zi_a rfl rfl rfl ?_
  refine zi_a rfl rfl rfl ?_
  refine zi_ifd rfl rfl rfl (tgt := 27) (by decide) (fun h => ?_) (fun h => ?_)
  · have h' : ¬ lg_cmp (x ^^^ y) 0 < 0 := Int32.not_lt.mpr h
    rw [if_neg (fun q => h' q.1)] at hP
    refine zi_l rfl rfl rfl ?_
    exact zi_rl rfl rfl hP
  · have h' : lg_cmp (x ^^^ y) 0 < 0 := Int32.not_le.mp h
    refine zi_l rfl rfl rfl ?_
    refine zi_l rfl rfl rfl ?_
    refine zi_a rfl rfl rfl ?_
    refine zi_l rfl rfl rfl ?_
    refine zi_a rfl rfl rfl ?_
    refine zi_ifd rfl rfl rfl (tgt := 27) (by decide) (fun h2 => ?_) (fun h2 => ?_)
    · rw [if_neg (fun q => q.2 h2)] at hP
      refine zi_l rfl rfl rfl ?_
      exact zi_rl rfl rfl hP
    · rw [if_pos ⟨h', h2⟩] at hP
      refine zi_l rfl rfl rfl ?_
      refine zi_a rfl rfl rfl ?_
      refine zi_a rfl rfl rfl ?_
      exact zi_rl rfl rfl hP
/-- Arrays.fill of a row of longs -/
def zfill (w : zW) (a : Nat) (v : Int64) : Nat → zW
  | 0 => w
  | n + 1 => zset (zfill w a v n) a n (.long v)
theorem zfill_sh (w : zW) (a : Nat) (v : Int64) (n : Nat) : (zfill w a v n).2.1 = w.2.1 := by
  induction n with
  | zero => rfl
  | succ n ih => exact ih
theorem c_fill {a n : Nat} {v : Int64} (hs : w.2.1 a = some (101, n)) (hn : n < 2 ^ 31) (hP : Post none (zfill w a v n)) : zOk S d 25 0 (lv_args 0 [.ref a, .long v]) [] w Post := by
  have loop : ∀ (m i : Nat), i + m = n → zOk S d 25 6 [(0, .ref a), (1, .long v), (3, .int (nI i)), (4, .int (nI n))] [] (zfill w a v i) Post := by
    intro m
    induction m with
    | zero =>
      intro i hi
      obtain rfl : i = n := hi
      refine zi_l rfl rfl rfl ?_
      refine zi_l rfl rfl rfl ?_
      refine zi_ifd rfl rfl rfl (tgt := 22) (by decide) (fun h => ?_) (fun h => ?_)
      · exact zi_ret rfl rfl rfl hP
      · exact absurd (Int32.le_refl _) h
    | succ m ih =>
      intro i hi
      refine zi_l rfl rfl rfl ?_
      refine zi_l rfl rfl rfl ?_
      refine zi_ifd rfl rfl rfl (tgt := 22) (by decide) (fun h => ?_) (fun h => ?_)
      · exact absurd h (nI_ge (by omega) hn)
      · refine zi_l rfl rfl rfl ?_
        refine zi_l rfl rfl rfl ?_
        refine zi_l rfl rfl rfl ?_
        refine zi_lst rfl (by rw [zfill_sh]; exact hs) (vp_in_nI (by omega) hn) ?_
        refine zi_l rfl rfl rfl ?_
        refine zi_go rfl rfl rfl (tgt := 6) (by decide) ?_
        have e := ih (i + 1) (by omega)
        rw [nI_clamp (by omega)]
        rw [← nI_1] at e
        exact e
  refine zi_a rfl rfl rfl ?_
  refine zi_l rfl rfl rfl ?_
  refine zi_l rfl rfl rfl ?_
  refine zi_len rfl hs (by decide) ?_
  refine zi_l rfl rfl rfl ?_
  exact loop n 0 (by omega)
end ZL
