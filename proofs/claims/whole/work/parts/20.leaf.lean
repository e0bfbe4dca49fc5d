/-! small methods that both sides use -/
section ZL
variable {S : zS} {d : Nat} {w : zW} {Post : Option Value → zW → Prop}
theorem zix_of {i : Int32} {n : Nat} (hn : n < 2 ^ 31) (h0 : ¬ i < 0) (h1 : ¬ Int32.ofNat n ≤ i) : zix i n := by
  rcases pk_ix i hn with h | h | ⟨j, hj, rfl⟩
  · exact absurd h h0
  · exact absurd h h1
  · exact vp_in_nI hj hn
theorem c_get {row n : Nat} {f : Nat → Int64} {k : Int32} (hs : w.2.1 row = some (101, n)) (hn : n < 2 ^ 31) (hf : ∀ i, i < n → w.2.2 row i = .long (f i)) (hP : Post (some (.long (if k < 0 ∨ nI n ≤ k then 0 else f k.toNatClampNeg))) w) : zOk S d 34 0 (lv_args 0 [.ref row, .int k]) [] w Post := by
  refine zi rfl rfl ?_
  refine zi_ifd rfl rfl rfl (tgt := 16) (by decide) (fun h => ?_) (fun h => ?_)
  · rw [if_pos (Or.inl h)] at hP
    refine zi rfl rfl ?_
    exact zi_ret rfl rfl rfl hP
  · refine zi rfl rfl ?_
    refine zi rfl rfl ?_
    refine zi_len rfl hs (by decide) ?_
    refine zi_ifd rfl rfl rfl (tgt := 16) (by decide) (fun h2 => ?_) (fun h2 => ?_)
    · rw [if_pos (Or.inr h2)] at hP
      refine zi rfl rfl ?_
      exact zi_ret rfl rfl rfl hP
    · rw [if_neg (fun q => q.elim h h2)] at hP
      have hi := zix_of hn h h2
      refine zi rfl rfl ?_
      refine zi rfl rfl ?_
      refine zi_lld rfl hs hi (hf _ (Nat.not_le.mp fun q => hi (Or.inr q))) ?_
      refine zi_go rfl rfl rfl (tgt := 17) (by decide) ?_
      exact zi_ret rfl rfl rfl hP
theorem c_put {row n : Nat} {k : Int32} {v : Int64} (hs : w.2.1 row = some (101, n)) (hn : n < 2 ^ 31) (hP : Post (some (.int (if k < 0 ∨ nI n ≤ k then 0 else 1))) (if k < 0 ∨ nI n ≤ k then w else zset w row k.toNatClampNeg (.long v))) : zOk S d 21 0 (lv_args 0 [.ref row, .int k, .long v]) [] w Post := by
  refine zi rfl rfl ?_
  refine zi_ifd rfl rfl rfl (tgt := 10) (by decide) (fun h => ?_) (fun h => ?_)
  · rw [if_pos (Or.inl h), if_pos (Or.inl h)] at hP
    refine zi rfl rfl ?_
    exact zi_ret rfl rfl rfl hP
  · refine zi rfl rfl ?_
    refine zi rfl rfl ?_
    refine zi_len rfl hs (by decide) ?_
    refine zi_ifd rfl rfl rfl (tgt := 12) (by decide) (fun h2 => ?_) (fun h2 => ?_)
    · have h3 : ¬ Int32.ofNat n ≤ k := Int32.not_le.mpr h2
      rw [if_neg (fun q => q.elim h h3), if_neg (fun q => q.elim h h3)] at hP
      have hi := zix_of hn h h3
      refine zi rfl rfl ?_
      refine zi rfl rfl ?_
      refine zi rfl rfl ?_
      refine zi_lst rfl hs hi ?_
      refine zi rfl rfl ?_
      exact zi_ret rfl rfl rfl hP
    · have h3 : nI n ≤ k := Int32.not_lt.mp h2
      rw [if_pos (Or.inr h3), if_pos (Or.inr h3)] at hP
      refine zi rfl rfl ?_
      exact zi_ret rfl rfl rfl hP
theorem c_max {x y : Int32} (hP : Post (some (.int (if x < y then y else x))) w) : zOk S d 16 0 (lv_args 0 [.int x, .int y]) [] w Post := by
  refine zi rfl rfl ?_
  refine zi rfl rfl ?_
  refine zi_ifd rfl rfl rfl (tgt := 9) (by decide) (fun h => ?_) (fun h => ?_)
  · rw [if_pos h] at hP
    refine zi rfl rfl ?_
    exact zi_ret rfl rfl rfl hP
  · rw [if_neg h] at hP
    refine zi rfl rfl ?_
    refine zi_go rfl rfl rfl (tgt := 10) (by decide) ?_
    exact zi_ret rfl rfl rfl hP
/-- a Spot's stage is field 7 -/
theorem c_renew0 (hP : Post none w) : zOk S d 41 0 (lv_args 0 [.null]) [] w Post := by
  refine zi rfl rfl ?_
  refine zi_go rfl rfl rfl (tgt := 9) (by decide) ?_
  exact zi_ret rfl rfl rfl hP
theorem c_renew {a N : Nat} (hs : w.2.1 a = some (3, N)) (hP : Post none (zset w a 7 (.int 0))) : zOk S d 41 0 (lv_args 0 [.ref a]) [] w Post := by
  refine zi rfl rfl ?_
  refine zi_stay rfl rfl rfl (tgt := 9) (by decide) ?_
  refine zi rfl rfl ?_
  refine zi rfl rfl ?_
  refine zi_put rfl rfl hs ⟨rfl, rfl, Or.inl rfl⟩ ?_
  exact zi_ret rfl rfl rfl hP
end ZL
