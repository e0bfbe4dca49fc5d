/-! p1: the law's loop, once: one call on a fresh object of each -/
set_option maxHeartbeats 4000000 in
set_option maxRecDepth 100000 in
theorem law_0 {b b0 z : Nat} {xs : Nat → Int32} {w : zW} (h : oneAt b b0 z w) : zOk (b, 5, xs) 1000 109 104 (oneL b b0 0) [] w (oneP b0) := by
  obtain ⟨v, σ2, μ2, hk1, hk2, hs1, hs2⟩ := one_leaf (b0 + 44, z) (xs 1) (lj (xs 2) (xs 3))
  unfold oneL
  refine zi_l rfl rfl rfl ?_
  refine zi_l rfl rfl rfl ?_
  refine zi_l rfl rfl rfl ?_
  refine zi_a (st' := .int 1 :: .int 0 :: _) rfl rfl rfl ?_
  refine zi_a (st' := .int 1 :: _) rfl rfl rfl ?_
  refine one_ld rfl h.2.2.2.1 (by decide) rfl ?_
  refine zi_l rfl rfl rfl ?_
  refine zi_l rfl rfl rfl ?_
  refine zi_a (st' := .int 2 :: .int 0 :: _) rfl rfl rfl ?_
  refine zi_a (st' := .int 2 :: _) rfl rfl rfl ?_
  refine one_ld rfl h.2.2.2.1 (by decide) rfl ?_
  refine zi_a rfl rfl rfl ?_
  refine zi_a (st' := .int 32 :: _) rfl rfl rfl ?_
  refine zi_a rfl rfl rfl ?_
  refine zi_l rfl rfl rfl ?_
  refine zi_l rfl rfl rfl ?_
  refine zi_a (st' := .int 3 :: .int 0 :: _) rfl rfl rfl ?_
  refine zi_a (st' := .int 3 :: _) rfl rfl rfl ?_
  refine one_ld rfl h.2.2.2.1 (by decide) rfl ?_
  refine zi_a rfl rfl rfl ?_
  refine zi_c2 (x := 4294967295) rfl rfl ?_
  refine zi_a rfl rfl rfl ?_
  refine zi_a (st' := .long (lj (xs 2) (xs 3)) :: _) rfl rfl rfl ?_
  refine zi_v rfl rfl rfl h.2.2.2.2.1 rfl rfl rfl (zOk.keep (cT_leaf (by decide) hk1 h.2.2.2.2.2.2 (fun pa2 w2 h2 hk => ?_)))
  obtain ⟨hn, hm, hz⟩ := one_after h h2 hk
  show zOk _ _ 109 133 _ _ _ _
  refine zi_l rfl rfl rfl ?_
  refine zi_l rfl rfl rfl ?_
  refine zi_l rfl rfl rfl ?_
  refine zi_a (st' := .int 1 :: .int 0 :: _) rfl rfl rfl ?_
  refine zi_a (st' := .int 1 :: _) rfl rfl rfl ?_
  refine one_ld rfl hn (by decide) rfl ?_
  refine zi_l rfl rfl rfl ?_
  refine zi_l rfl rfl rfl ?_
  refine zi_a (st' := .int 2 :: .int 0 :: _) rfl rfl rfl ?_
  refine zi_a (st' := .int 2 :: _) rfl rfl rfl ?_
  refine one_ld rfl hn (by decide) rfl ?_
  refine zi_a rfl rfl rfl ?_
  refine zi_a (st' := .int 32 :: _) rfl rfl rfl ?_
  refine zi_a rfl rfl rfl ?_
  refine zi_l rfl rfl rfl ?_
  refine zi_l rfl rfl rfl ?_
  refine zi_a (st' := .int 3 :: .int 0 :: _) rfl rfl rfl ?_
  refine zi_a (st' := .int 3 :: _) rfl rfl rfl ?_
  refine one_ld rfl hn (by decide) rfl ?_
  refine zi_a rfl rfl rfl ?_
  refine zi_c2 (x := 4294967295) rfl rfl ?_
  refine zi_a rfl rfl rfl ?_
  refine zi_a (st' := .long (lj (xs 2) (xs 3)) :: _) rfl rfl rfl ?_
  refine zi_v rfl rfl rfl hm.1.1 rfl rfl rfl (mT_leaf (by decide) hk2 hm (fun w3 h3 => ?_))
  show zOk _ _ 109 162 _ _ _ _
  refine zi_ifd (tgt := 624) rfl rfl rfl rfl (fun _ => ?_) (fun q => absurd rfl q)
  exact one_end (one_in h h3 hn hz hs1 hs2)
set_option maxHeartbeats 4000000 in
set_option maxRecDepth 100000 in
theorem law_1 {b b0 z : Nat} {xs : Nat → Int32} {w : zW} (h : oneAt b b0 z w) : zOk (b, 5, xs) 1000 109 167 (oneL b b0 0) [] w (oneP b0) := by
  obtain ⟨v, σ2, μ2, hk1, hk2, hs1, hs2⟩ := one_node (b0 + 44, z) (xs 1) (xs 2) (xs 3) (xs 4)
  unfold oneL
  refine zi_l rfl rfl rfl ?_
  refine zi_l rfl rfl rfl ?_
  refine zi_l rfl rfl rfl ?_
  refine zi_a (st' := .int 1 :: .int 0 :: _) rfl rfl rfl ?_
  refine zi_a (st' := .int 1 :: _) rfl rfl rfl ?_
  refine one_ld rfl h.2.2.2.1 (by decide) rfl ?_
  refine zi_l rfl rfl rfl ?_
  refine zi_l rfl rfl rfl ?_
  refine zi_a (st' := .int 2 :: .int 0 :: _) rfl rfl rfl ?_
  refine zi_a (st' := .int 2 :: _) rfl rfl rfl ?_
  refine one_ld rfl h.2.2.2.1 (by decide) rfl ?_
  refine zi_l rfl rfl rfl ?_
  refine zi_l rfl rfl rfl ?_
  refine zi_a (st' := .int 3 :: .int 0 :: _) rfl rfl rfl ?_
  refine zi_a (st' := .int 3 :: _) rfl rfl rfl ?_
  refine one_ld rfl h.2.2.2.1 (by decide) rfl ?_
  refine zi_l rfl rfl rfl ?_
  refine zi_l rfl rfl rfl ?_
  refine zi_a (st' := .int 4 :: .int 0 :: _) rfl rfl rfl ?_
  refine zi_a (st' := .int 4 :: _) rfl rfl rfl ?_
  refine one_ld rfl h.2.2.2.1 (by decide) rfl ?_
  refine zi_v rfl rfl rfl h.2.2.2.2.1 rfl rfl rfl (zOk.keep (cT_node (by decide) hk1 h.2.2.2.2.2.2 (fun pa2 w2 h2 hk => ?_)))
  obtain ⟨hn, hm, hz⟩ := one_after h h2 hk
  show zOk _ _ 109 191 _ _ _ _
  refine zi_l rfl rfl rfl ?_
  refine zi_l rfl rfl rfl ?_
  refine zi_l rfl rfl rfl ?_
  refine zi_a (st' := .int 1 :: .int 0 :: _) rfl rfl rfl ?_
  refine zi_a (st' := .int 1 :: _) rfl rfl rfl ?_
  refine one_ld rfl hn (by decide) rfl ?_
  refine zi_l rfl rfl rfl ?_
  refine zi_l rfl rfl rfl ?_
  refine zi_a (st' := .int 2 :: .int 0 :: _) rfl rfl rfl ?_
  refine zi_a (st' := .int 2 :: _) rfl rfl rfl ?_
  refine one_ld rfl hn (by decide) rfl ?_
  refine zi_l rfl rfl rfl ?_
  refine zi_l rfl rfl rfl ?_
  refine zi_a (st' := .int 3 :: .int 0 :: _) rfl rfl rfl ?_
  refine zi_a (st' := .int 3 :: _) rfl rfl rfl ?_
  refine one_ld rfl hn (by decide) rfl ?_
  refine zi_l rfl rfl rfl ?_
  refine zi_l rfl rfl rfl ?_
  refine zi_a (st' := .int 4 :: .int 0 :: _) rfl rfl rfl ?_
  refine zi_a (st' := .int 4 :: _) rfl rfl rfl ?_
  refine one_ld rfl hn (by decide) rfl ?_
  refine zi_v rfl rfl rfl hm.1.1 rfl rfl rfl (mT_node (by decide) hk2 hm (fun w3 h3 => ?_))
  show zOk _ _ 109 215 _ _ _ _
  refine zi_ifd (tgt := 624) rfl rfl rfl rfl (fun _ => ?_) (fun q => absurd rfl q)
  exact one_end (one_in h h3 hn hz hs1 hs2)
set_option maxHeartbeats 4000000 in
set_option maxRecDepth 100000 in
theorem law_2 {b b0 z : Nat} {xs : Nat → Int32} {w : zW} (h : oneAt b b0 z w) : zOk (b, 5, xs) 1000 109 220 (oneL b b0 0) [] w (oneP b0) := by
  obtain ⟨v, σ2, μ2, hk1, hk2, hs1, hs2⟩ := one_signal (b0 + 44, z) (xs 1) (lj (xs 2) (xs 3))
  unfold oneL
  refine zi_l rfl rfl rfl ?_
  refine zi_l rfl rfl rfl ?_
  refine zi_l rfl rfl rfl ?_
  refine zi_a (st' := .int 1 :: .int 0 :: _) rfl rfl rfl ?_
  refine zi_a (st' := .int 1 :: _) rfl rfl rfl ?_
  refine one_ld rfl h.2.2.2.1 (by decide) rfl ?_
  refine zi_l rfl rfl rfl ?_
  refine zi_l rfl rfl rfl ?_
  refine zi_a (st' := .int 2 :: .int 0 :: _) rfl rfl rfl ?_
  refine zi_a (st' := .int 2 :: _) rfl rfl rfl ?_
  refine one_ld rfl h.2.2.2.1 (by decide) rfl ?_
  refine zi_a rfl rfl rfl ?_
  refine zi_a (st' := .int 32 :: _) rfl rfl rfl ?_
  refine zi_a rfl rfl rfl ?_
  refine zi_l rfl rfl rfl ?_
  refine zi_l rfl rfl rfl ?_
  refine zi_a (st' := .int 3 :: .int 0 :: _) rfl rfl rfl ?_
  refine zi_a (st' := .int 3 :: _) rfl rfl rfl ?_
  refine one_ld rfl h.2.2.2.1 (by decide) rfl ?_
  refine zi_a rfl rfl rfl ?_
  refine zi_c2 (x := 4294967295) rfl rfl ?_
  refine zi_a rfl rfl rfl ?_
  refine zi_a (st' := .long (lj (xs 2) (xs 3)) :: _) rfl rfl rfl ?_
  refine zi_v rfl rfl rfl h.2.2.2.2.1 rfl rfl rfl (zOk.keep (cT_signal (by decide) hk1 h.2.2.2.2.2.2 (fun w2 h2 hk => ?_)))
  obtain ⟨hn, hm, hz⟩ := one_after h h2 hk
  show zOk _ _ 109 249 _ _ _ _
  refine zi_l rfl rfl rfl ?_
  refine zi_l rfl rfl rfl ?_
  refine zi_l rfl rfl rfl ?_
  refine zi_a (st' := .int 1 :: .int 0 :: _) rfl rfl rfl ?_
  refine zi_a (st' := .int 1 :: _) rfl rfl rfl ?_
  refine one_ld rfl hn (by decide) rfl ?_
  refine zi_l rfl rfl rfl ?_
  refine zi_l rfl rfl rfl ?_
  refine zi_a (st' := .int 2 :: .int 0 :: _) rfl rfl rfl ?_
  refine zi_a (st' := .int 2 :: _) rfl rfl rfl ?_
  refine one_ld rfl hn (by decide) rfl ?_
  refine zi_a rfl rfl rfl ?_
  refine zi_a (st' := .int 32 :: _) rfl rfl rfl ?_
  refine zi_a rfl rfl rfl ?_
  refine zi_l rfl rfl rfl ?_
  refine zi_l rfl rfl rfl ?_
  refine zi_a (st' := .int 3 :: .int 0 :: _) rfl rfl rfl ?_
  refine zi_a (st' := .int 3 :: _) rfl rfl rfl ?_
  refine one_ld rfl hn (by decide) rfl ?_
  refine zi_a rfl rfl rfl ?_
  refine zi_c2 (x := 4294967295) rfl rfl ?_
  refine zi_a rfl rfl rfl ?_
  refine zi_a (st' := .long (lj (xs 2) (xs 3)) :: _) rfl rfl rfl ?_
  refine zi_v rfl rfl rfl hm.1.1 rfl rfl rfl (mT_signal (by decide) hk2 hm (fun w3 h3 => ?_))
  show zOk _ _ 109 278 _ _ _ _
  refine zi_ifd (tgt := 624) rfl rfl rfl rfl (fun _ => ?_) (fun q => absurd rfl q)
  exact one_end (one_in h h3 hn hz hs1 hs2)
set_option maxHeartbeats 4000000 in
set_option maxRecDepth 100000 in
theorem law_3 {b b0 z : Nat} {xs : Nat → Int32} {w : zW} (h : oneAt b b0 z w) : zOk (b, 5, xs) 1000 109 283 (oneL b b0 0) [] w (oneP b0) := by
  obtain ⟨v, σ2, μ2, hk1, hk2, hs1, hs2⟩ := one_start (b0 + 44, z) (xs 1)
  unfold oneL
  refine zi_l rfl rfl rfl ?_
  refine zi_l rfl rfl rfl ?_
  refine zi_l rfl rfl rfl ?_
  refine zi_a (st' := .int 1 :: .int 0 :: _) rfl rfl rfl ?_
  refine zi_a (st' := .int 1 :: _) rfl rfl rfl ?_
  refine one_ld rfl h.2.2.2.1 (by decide) rfl ?_
  refine zi_v rfl rfl rfl h.2.2.2.2.1 rfl rfl rfl (zOk.keep (cT_start (n0 := 0) (s0 := fun _ => 0) (by decide) (fun h => by cases (show (none : Option _) = some _ from h)) (Nat.zero_le _) (fun i hi => absurd hi (Nat.not_lt_zero i)) hk1 h.2.2.2.2.2.2 (fun sa2 w2 _ h2 hk => ?_)))
  obtain ⟨hn, hm, hz⟩ := one_after h h2 hk
  show zOk _ _ 109 292 _ _ _ _
  refine zi_l rfl rfl rfl ?_
  refine zi_l rfl rfl rfl ?_
  refine zi_l rfl rfl rfl ?_
  refine zi_a (st' := .int 1 :: .int 0 :: _) rfl rfl rfl ?_
  refine zi_a (st' := .int 1 :: _) rfl rfl rfl ?_
  refine one_ld rfl hn (by decide) rfl ?_
  refine zi_v rfl rfl rfl hm.1.1 rfl rfl rfl (mT_start (by decide) (fun h => by cases (show (none : Option _) = some _ from h)) hk2 hm (fun w3 h3 => ?_))
  show zOk _ _ 109 301 _ _ _ _
  refine zi_ifd (tgt := 624) rfl rfl rfl rfl (fun _ => ?_) (fun q => absurd rfl q)
  exact one_end (one_in h h3 hn hz hs1 hs2)
set_option maxHeartbeats 4000000 in
set_option maxRecDepth 100000 in
theorem law_4 {b b0 z : Nat} {xs : Nat → Int32} {w : zW} (h : oneAt b b0 z w) : zOk (b, 5, xs) 1000 109 306 (oneL b b0 0) [] w (oneP b0) := by
  obtain ⟨v, σ2, μ2, hk1, hk2, hs1, hs2⟩ := one_tick (b0 + 44, z) (xs 1)
  unfold oneL
  refine zi_l rfl rfl rfl ?_
  refine zi_l rfl rfl rfl ?_
  refine zi_l rfl rfl rfl ?_
  refine zi_a (st' := .int 1 :: .int 0 :: _) rfl rfl rfl ?_
  refine zi_a (st' := .int 1 :: _) rfl rfl rfl ?_
  refine one_ld rfl h.2.2.2.1 (by decide) rfl ?_
  refine zi_v rfl rfl rfl h.2.2.2.2.1 rfl rfl rfl (zOk.keep (cT_tick (by decide) (fun h => by cases (show (none : Option _) = some _ from h)) (fun h => by cases (show (none : Option _) = some _ from h)) (fun h => by cases (show (none : Option _) = some _ from h)) hk1 h.2.2.2.2.2.2 (fun w2 h2 hk => ?_)))
  obtain ⟨hn, hm, hz⟩ := one_after h h2 hk
  show zOk _ _ 109 315 _ _ _ _
  refine zi_l rfl rfl rfl ?_
  refine zi_l rfl rfl rfl ?_
  refine zi_l rfl rfl rfl ?_
  refine zi_a (st' := .int 1 :: .int 0 :: _) rfl rfl rfl ?_
  refine zi_a (st' := .int 1 :: _) rfl rfl rfl ?_
  refine one_ld rfl hn (by decide) rfl ?_
  refine zi_v rfl rfl rfl hm.1.1 rfl rfl rfl (mT_tick (by decide) (fun h => by cases (show (none : Option _) = some _ from h)) (fun h => by cases (show (none : Option _) = some _ from h)) hk2 hm (fun w3 h3 => ?_))
  show zOk _ _ 109 324 _ _ _ _
  refine zi_ifd (tgt := 624) rfl rfl rfl rfl (fun _ => ?_) (fun q => absurd rfl q)
  exact one_end (one_in h h3 hn hz hs1 hs2)
set_option maxHeartbeats 4000000 in
set_option maxRecDepth 100000 in
theorem law_5 {b b0 z : Nat} {xs : Nat → Int32} {w : zW} (h : oneAt b b0 z w) : zOk (b, 5, xs) 1000 109 329 (oneL b b0 0) [] w (oneP b0) := by
  obtain ⟨v, σ2, μ2, hk1, hk2, hs1, hs2⟩ := one_output (b0 + 44, z) (xs 1)
  unfold oneL
  refine zi_l rfl rfl rfl ?_
  refine zi_l rfl rfl rfl ?_
  refine zi_l rfl rfl rfl ?_
  refine zi_a (st' := .int 1 :: .int 0 :: _) rfl rfl rfl ?_
  refine zi_a (st' := .int 1 :: _) rfl rfl rfl ?_
  refine one_ld rfl h.2.2.2.1 (by decide) rfl ?_
  refine zi_v rfl rfl rfl h.2.2.2.2.1 rfl rfl rfl (zOk.keep (cT_output (by decide) hk1 h.2.2.2.2.2.2 (fun w2 h2 hk => ?_)))
  obtain ⟨hn, hm, hz⟩ := one_after h h2 hk
  show zOk _ _ 109 338 _ _ _ _
  refine zi_l rfl rfl rfl ?_
  refine zi_l rfl rfl rfl ?_
  refine zi_l rfl rfl rfl ?_
  refine zi_a (st' := .int 1 :: .int 0 :: _) rfl rfl rfl ?_
  refine zi_a (st' := .int 1 :: _) rfl rfl rfl ?_
  refine one_ld rfl hn (by decide) rfl ?_
  refine zi_v rfl rfl rfl hm.1.1 rfl rfl rfl (mT_output (by decide) hk2 hm (fun w3 h3 => ?_))
  show zOk _ _ 109 347 _ _ _ _
  refine zi_a (st' := .int 0 :: _) rfl rfl (by rw [← lg_same v]; rfl) ?_
  refine zi_ifd (tgt := 624) rfl rfl rfl rfl (fun _ => ?_) (fun q => absurd rfl q)
  exact one_end (one_in h h3 hn hz hs1 hs2)
set_option maxHeartbeats 4000000 in
set_option maxRecDepth 100000 in
theorem law_6 {b b0 z : Nat} {xs : Nat → Int32} {w : zW} (h : oneAt b b0 z w) : zOk (b, 5, xs) 1000 109 353 (oneL b b0 0) [] w (oneP b0) := by
  obtain ⟨v, σ2, μ2, hk1, hk2, hs1, hs2⟩ := one_step (b0 + 44, z) (xs 1)
  unfold oneL
  refine zi_l rfl rfl rfl ?_
  refine zi_l rfl rfl rfl ?_
  refine zi_l rfl rfl rfl ?_
  refine zi_a (st' := .int 1 :: .int 0 :: _) rfl rfl rfl ?_
  refine zi_a (st' := .int 1 :: _) rfl rfl rfl ?_
  refine one_ld rfl h.2.2.2.1 (by decide) rfl ?_
  refine zi_v rfl rfl rfl h.2.2.2.2.1 rfl rfl rfl (zOk.keep (cT_step (by decide) hk1 h.2.2.2.2.2.2 (fun w2 h2 hk => ?_)))
  obtain ⟨hn, hm, hz⟩ := one_after h h2 hk
  show zOk _ _ 109 362 _ _ _ _
  refine zi_l rfl rfl rfl ?_
  refine zi_l rfl rfl rfl ?_
  refine zi_l rfl rfl rfl ?_
  refine zi_a (st' := .int 1 :: .int 0 :: _) rfl rfl rfl ?_
  refine zi_a (st' := .int 1 :: _) rfl rfl rfl ?_
  refine one_ld rfl hn (by decide) rfl ?_
  refine zi_v rfl rfl rfl hm.1.1 rfl rfl rfl (mT_step (by decide) (fun h => by cases (show (none : Option _) = some _ from h)) hk2 hm (fun w3 h3 => ?_))
  show zOk _ _ 109 371 _ _ _ _
  refine zi_ifd (tgt := 624) rfl rfl rfl rfl (fun _ => ?_) (fun q => absurd rfl q)
  exact one_end (one_in h h3 hn hz hs1 hs2)
set_option maxHeartbeats 4000000 in
set_option maxRecDepth 100000 in
theorem law_7 {b b0 z : Nat} {xs : Nat → Int32} {w : zW} (h : oneAt b b0 z w) : zOk (b, 5, xs) 1000 109 376 (oneL b b0 0) [] w (oneP b0) := by
  obtain ⟨v, σ2, μ2, hk1, hk2, hs1, hs2⟩ := one_alarm (b0 + 44, z) (xs 1) (xs 2)
  unfold oneL
  refine zi_l rfl rfl rfl ?_
  refine zi_l rfl rfl rfl ?_
  refine zi_l rfl rfl rfl ?_
  refine zi_a (st' := .int 1 :: .int 0 :: _) rfl rfl rfl ?_
  refine zi_a (st' := .int 1 :: _) rfl rfl rfl ?_
  refine one_ld rfl h.2.2.2.1 (by decide) rfl ?_
  refine zi_l rfl rfl rfl ?_
  refine zi_l rfl rfl rfl ?_
  refine zi_a (st' := .int 2 :: .int 0 :: _) rfl rfl rfl ?_
  refine zi_a (st' := .int 2 :: _) rfl rfl rfl ?_
  refine one_ld rfl h.2.2.2.1 (by decide) rfl ?_
  refine zi_v rfl rfl rfl h.2.2.2.2.1 rfl rfl rfl (zOk.keep (cT_alarm (by decide) hk1 h.2.2.2.2.2.2 (fun w2 h2 hk => ?_)))
  obtain ⟨hn, hm, hz⟩ := one_after h h2 hk
  show zOk _ _ 109 390 _ _ _ _
  refine zi_l rfl rfl rfl ?_
  refine zi_l rfl rfl rfl ?_
  refine zi_l rfl rfl rfl ?_
  refine zi_a (st' := .int 1 :: .int 0 :: _) rfl rfl rfl ?_
  refine zi_a (st' := .int 1 :: _) rfl rfl rfl ?_
  refine one_ld rfl hn (by decide) rfl ?_
  refine zi_l rfl rfl rfl ?_
  refine zi_l rfl rfl rfl ?_
  refine zi_a (st' := .int 2 :: .int 0 :: _) rfl rfl rfl ?_
  refine zi_a (st' := .int 2 :: _) rfl rfl rfl ?_
  refine one_ld rfl hn (by decide) rfl ?_
  refine zi_v rfl rfl rfl hm.1.1 rfl rfl rfl (mT_alarm (by decide) hk2 hm (fun w3 h3 => ?_))
  show zOk _ _ 109 404 _ _ _ _
  refine zi_ifd (tgt := 624) rfl rfl rfl rfl (fun _ => ?_) (fun q => absurd rfl q)
  exact one_end (one_in h h3 hn hz hs1 hs2)
set_option maxHeartbeats 4000000 in
set_option maxRecDepth 100000 in
theorem law_8 {b b0 z : Nat} {xs : Nat → Int32} {w : zW} (h : oneAt b b0 z w) : zOk (b, 5, xs) 1000 109 409 (oneL b b0 0) [] w (oneP b0) := by
  obtain ⟨v, σ2, μ2, hk1, hk2, hs1, hs2⟩ := one_answer (b0 + 44, z) (lj (xs 1) (xs 2))
  unfold oneL
  refine zi_l rfl rfl rfl ?_
  refine zi_l rfl rfl rfl ?_
  refine zi_l rfl rfl rfl ?_
  refine zi_a (st' := .int 1 :: .int 0 :: _) rfl rfl rfl ?_
  refine zi_a (st' := .int 1 :: _) rfl rfl rfl ?_
  refine one_ld rfl h.2.2.2.1 (by decide) rfl ?_
  refine zi_a rfl rfl rfl ?_
  refine zi_a (st' := .int 32 :: _) rfl rfl rfl ?_
  refine zi_a rfl rfl rfl ?_
  refine zi_l rfl rfl rfl ?_
  refine zi_l rfl rfl rfl ?_
  refine zi_a (st' := .int 2 :: .int 0 :: _) rfl rfl rfl ?_
  refine zi_a (st' := .int 2 :: _) rfl rfl rfl ?_
  refine one_ld rfl h.2.2.2.1 (by decide) rfl ?_
  refine zi_a rfl rfl rfl ?_
  refine zi_c2 (x := 4294967295) rfl rfl ?_
  refine zi_a rfl rfl rfl ?_
  refine zi_a (st' := .long (lj (xs 1) (xs 2)) :: _) rfl rfl rfl ?_
  refine zi_v rfl rfl rfl h.2.2.2.2.1 rfl rfl rfl (zOk.keep (cT_answer (by decide) hk1 h.2.2.2.2.2.2 (fun w2 h2 hk => ?_)))
  obtain ⟨hn, hm, hz⟩ := one_after h h2 hk
  show zOk _ _ 109 433 _ _ _ _
  refine zi_l rfl rfl rfl ?_
  refine zi_l rfl rfl rfl ?_
  refine zi_l rfl rfl rfl ?_
  refine zi_a (st' := .int 1 :: .int 0 :: _) rfl rfl rfl ?_
  refine zi_a (st' := .int 1 :: _) rfl rfl rfl ?_
  refine one_ld rfl hn (by decide) rfl ?_
  refine zi_a rfl rfl rfl ?_
  refine zi_a (st' := .int 32 :: _) rfl rfl rfl ?_
  refine zi_a rfl rfl rfl ?_
  refine zi_l rfl rfl rfl ?_
  refine zi_l rfl rfl rfl ?_
  refine zi_a (st' := .int 2 :: .int 0 :: _) rfl rfl rfl ?_
  refine zi_a (st' := .int 2 :: _) rfl rfl rfl ?_
  refine one_ld rfl hn (by decide) rfl ?_
  refine zi_a rfl rfl rfl ?_
  refine zi_c2 (x := 4294967295) rfl rfl ?_
  refine zi_a rfl rfl rfl ?_
  refine zi_a (st' := .long (lj (xs 1) (xs 2)) :: _) rfl rfl rfl ?_
  refine zi_v rfl rfl rfl hm.1.1 rfl rfl rfl (mT_answer (by decide) (fun h => by cases (show (none : Option _) = some _ from h)) hk2 hm (fun w3 h3 => ?_))
  show zOk _ _ 109 457 _ _ _ _
  refine zi_ifd (tgt := 624) rfl rfl rfl rfl (fun _ => ?_) (fun q => absurd rfl q)
  exact one_end (one_in h h3 hn hz hs1 hs2)
set_option maxHeartbeats 4000000 in
set_option maxRecDepth 100000 in
theorem law_9a {b b0 z : Nat} {xs : Nat → Int32} {w : zW} (h : oneAt b b0 z w) (hx : ¬ xs 1 = 0) : zOk (b, 5, xs) 1000 109 462 (oneL b b0 0) [] w (oneP b0) := by
  obtain ⟨v, σ2, μ2, hk1, hk2, hs1, hs2⟩ := one_hold (b0 + 44, z) 1
  unfold oneL
  refine zi_l rfl rfl rfl ?_
  refine zi_l rfl rfl rfl ?_
  refine zi_l rfl rfl rfl ?_
  refine zi_a (st' := .int 1 :: .int 0 :: _) rfl rfl rfl ?_
  refine zi_a (st' := .int 1 :: _) rfl rfl rfl ?_
  refine one_ld rfl h.2.2.2.1 (by decide) rfl ?_
  refine zi_ifd (tgt := 475) rfl rfl rfl rfl (fun q => absurd q hx) (fun _ => ?_)
  show zOk _ _ 109 471 _ _ _ _
  refine zi_a (st' := .int 1 :: _) rfl rfl rfl ?_
  refine zi_go (tgt := 476) rfl rfl rfl rfl ?_
  refine zi_v rfl rfl rfl h.2.2.2.2.1 rfl rfl rfl (zOk.keep (cT_hold (by decide) hk1 h.2.2.2.2.2.2 (fun w2 h2 hk => ?_)))
  obtain ⟨hn, hm, hz⟩ := one_after h h2 hk
  show zOk _ _ 109 479 _ _ _ _
  refine zi_l rfl rfl rfl ?_
  refine zi_l rfl rfl rfl ?_
  refine zi_l rfl rfl rfl ?_
  refine zi_a (st' := .int 1 :: .int 0 :: _) rfl rfl rfl ?_
  refine zi_a (st' := .int 1 :: _) rfl rfl rfl ?_
  refine one_ld rfl hn (by decide) rfl ?_
  refine zi_ifd (tgt := 492) rfl rfl rfl rfl (fun q => absurd q hx) (fun _ => ?_)
  show zOk _ _ 109 488 _ _ _ _
  refine zi_a (st' := .int 1 :: _) rfl rfl rfl ?_
  refine zi_go (tgt := 493) rfl rfl rfl rfl ?_
  refine zi_v rfl rfl rfl hm.1.1 rfl rfl rfl (mT_hold (by decide) hk2 hm (fun w3 h3 => ?_))
  show zOk _ _ 109 496 _ _ _ _
  refine zi_ifd (tgt := 624) rfl rfl rfl rfl (fun _ => ?_) (fun q => absurd rfl q)
  exact one_end (one_in h h3 hn hz hs1 hs2)
set_option maxHeartbeats 4000000 in
set_option maxRecDepth 100000 in
theorem law_9b {b b0 z : Nat} {xs : Nat → Int32} {w : zW} (h : oneAt b b0 z w) (hx : xs 1 = 0) : zOk (b, 5, xs) 1000 109 462 (oneL b b0 0) [] w (oneP b0) := by
  obtain ⟨v, σ2, μ2, hk1, hk2, hs1, hs2⟩ := one_hold (b0 + 44, z) 0
  unfold oneL
  refine zi_l rfl rfl rfl ?_
  refine zi_l rfl rfl rfl ?_
  refine zi_l rfl rfl rfl ?_
  refine zi_a (st' := .int 1 :: .int 0 :: _) rfl rfl rfl ?_
  refine zi_a (st' := .int 1 :: _) rfl rfl rfl ?_
  refine one_ld rfl h.2.2.2.1 (by decide) rfl ?_
  refine zi_ifd (tgt := 475) rfl rfl rfl rfl (fun _ => ?_) (fun q => absurd hx q)
  refine zi_a (st' := .int 0 :: _) rfl rfl rfl ?_
  refine zi_v rfl rfl rfl h.2.2.2.2.1 rfl rfl rfl (zOk.keep (cT_hold (by decide) hk1 h.2.2.2.2.2.2 (fun w2 h2 hk => ?_)))
  obtain ⟨hn, hm, hz⟩ := one_after h h2 hk
  show zOk _ _ 109 479 _ _ _ _
  refine zi_l rfl rfl rfl ?_
  refine zi_l rfl rfl rfl ?_
  refine zi_l rfl rfl rfl ?_
  refine zi_a (st' := .int 1 :: .int 0 :: _) rfl rfl rfl ?_
  refine zi_a (st' := .int 1 :: _) rfl rfl rfl ?_
  refine one_ld rfl hn (by decide) rfl ?_
  refine zi_ifd (tgt := 492) rfl rfl rfl rfl (fun _ => ?_) (fun q => absurd hx q)
  refine zi_a (st' := .int 0 :: _) rfl rfl rfl ?_
  refine zi_v rfl rfl rfl hm.1.1 rfl rfl rfl (mT_hold (by decide) hk2 hm (fun w3 h3 => ?_))
  show zOk _ _ 109 496 _ _ _ _
  refine zi_ifd (tgt := 624) rfl rfl rfl rfl (fun _ => ?_) (fun q => absurd rfl q)
  exact one_end (one_in h h3 hn hz hs1 hs2)
set_option maxHeartbeats 4000000 in
set_option maxRecDepth 100000 in
theorem law_10 {b b0 z : Nat} {xs : Nat → Int32} {w : zW} (h : oneAt b b0 z w) : zOk (b, 5, xs) 1000 109 501 (oneL b b0 0) [] w (oneP b0) := by
  obtain ⟨v, σ2, μ2, hk1, hk2, hs1, hs2⟩ := one_stop (b0 + 44, z)
  unfold oneL
  refine zi_l rfl rfl rfl ?_
  refine zi_v rfl rfl rfl h.2.2.2.2.1 rfl rfl rfl (zOk.keep (cT_stop (by decide) (fun h => by cases (show (none : Option _) = some _ from h)) hk1 h.2.2.2.2.2.2 (fun w2 h2 hk => ?_)))
  obtain ⟨hn, hm, hz⟩ := one_after h h2 hk
  show zOk _ _ 109 505 _ _ _ _
  refine zi_l rfl rfl rfl ?_
  refine zi_v rfl rfl rfl hm.1.1 rfl rfl rfl (mT_stop (by decide) (fun h => by cases (show (none : Option _) = some _ from h)) hk2 hm (fun w3 h3 => ?_))
  show zOk _ _ 109 509 _ _ _ _
  refine zi_ifd (tgt := 624) rfl rfl rfl rfl (fun _ => ?_) (fun q => absurd rfl q)
  exact one_end (one_in h h3 hn hz hs1 hs2)
set_option maxHeartbeats 4000000 in
set_option maxRecDepth 100000 in
theorem law_11 {b b0 z : Nat} {xs : Nat → Int32} {w : zW} (h : oneAt b b0 z w) : zOk (b, 5, xs) 1000 109 514 (oneL b b0 0) [] w (oneP b0) := by
  obtain ⟨v, σ2, μ2, hk1, hk2, hs1, hs2⟩ := one_closed (b0 + 44, z) (xs 1)
  unfold oneL
  refine zi_l rfl rfl rfl ?_
  refine zi_l rfl rfl rfl ?_
  refine zi_l rfl rfl rfl ?_
  refine zi_a (st' := .int 1 :: .int 0 :: _) rfl rfl rfl ?_
  refine zi_a (st' := .int 1 :: _) rfl rfl rfl ?_
  refine one_ld rfl h.2.2.2.1 (by decide) rfl ?_
  refine zi_v rfl rfl rfl h.2.2.2.2.1 rfl rfl rfl (zOk.keep (cT_closed (by decide) hk1 h.2.2.2.2.2.2 (fun w2 h2 hk => ?_)))
  obtain ⟨hn, hm, hz⟩ := one_after h h2 hk
  show zOk _ _ 109 523 _ _ _ _
  refine zi_l rfl rfl rfl ?_
  refine zi_l rfl rfl rfl ?_
  refine zi_l rfl rfl rfl ?_
  refine zi_a (st' := .int 1 :: .int 0 :: _) rfl rfl rfl ?_
  refine zi_a (st' := .int 1 :: _) rfl rfl rfl ?_
  refine one_ld rfl hn (by decide) rfl ?_
  refine zi_v rfl rfl rfl hm.1.1 rfl rfl rfl (mT_closed (by decide) hk2 hm (fun w3 h3 => ?_))
  show zOk _ _ 109 532 _ _ _ _
  refine zi_ifd (tgt := 624) rfl rfl rfl rfl (fun _ => ?_) (fun q => absurd rfl q)
  exact one_end (one_in h h3 hn hz hs1 hs2)
set_option maxHeartbeats 4000000 in
set_option maxRecDepth 100000 in
theorem law_12 {b b0 z : Nat} {xs : Nat → Int32} {w : zW} (h : oneAt b b0 z w) : zOk (b, 5, xs) 1000 109 537 (oneL b b0 0) [] w (oneP b0) := by
  obtain ⟨v, σ2, μ2, hk1, hk2, hs1, hs2⟩ := one_value (b0 + 44, z) (xs 1)
  unfold oneL
  refine zi_l rfl rfl rfl ?_
  refine zi_l rfl rfl rfl ?_
  refine zi_l rfl rfl rfl ?_
  refine zi_a (st' := .int 1 :: .int 0 :: _) rfl rfl rfl ?_
  refine zi_a (st' := .int 1 :: _) rfl rfl rfl ?_
  refine one_ld rfl h.2.2.2.1 (by decide) rfl ?_
  refine zi_v rfl rfl rfl h.2.2.2.2.1 rfl rfl rfl (zOk.keep (cT_value (by decide) hk1 h.2.2.2.2.2.2 (fun w2 h2 hk => ?_)))
  obtain ⟨hn, hm, hz⟩ := one_after h h2 hk
  show zOk _ _ 109 546 _ _ _ _
  refine zi_l rfl rfl rfl ?_
  refine zi_l rfl rfl rfl ?_
  refine zi_l rfl rfl rfl ?_
  refine zi_a (st' := .int 1 :: .int 0 :: _) rfl rfl rfl ?_
  refine zi_a (st' := .int 1 :: _) rfl rfl rfl ?_
  refine one_ld rfl hn (by decide) rfl ?_
  refine zi_v rfl rfl rfl hm.1.1 rfl rfl rfl (mT_value (by decide) hk2 hm (fun w3 h3 => ?_))
  show zOk _ _ 109 555 _ _ _ _
  refine zi_a (st' := .int 0 :: _) rfl rfl (by rw [← lg_same v]; rfl) ?_
  refine zi_ifd (tgt := 624) rfl rfl rfl rfl (fun _ => ?_) (fun q => absurd rfl q)
  exact one_end (one_in h h3 hn hz hs1 hs2)
set_option maxHeartbeats 4000000 in
set_option maxRecDepth 100000 in
theorem law_13 {b b0 z : Nat} {xs : Nat → Int32} {w : zW} (h : oneAt b b0 z w) : zOk (b, 5, xs) 1000 109 561 (oneL b b0 0) [] w (oneP b0) := by
  obtain ⟨v, σ2, μ2, hk1, hk2, hs1, hs2⟩ := one_safe (b0 + 44, z) (xs 1) (lj (xs 2) (xs 3))
  unfold oneL
  refine zi_l rfl rfl rfl ?_
  refine zi_l rfl rfl rfl ?_
  refine zi_l rfl rfl rfl ?_
  refine zi_a (st' := .int 1 :: .int 0 :: _) rfl rfl rfl ?_
  refine zi_a (st' := .int 1 :: _) rfl rfl rfl ?_
  refine one_ld rfl h.2.2.2.1 (by decide) rfl ?_
  refine zi_l rfl rfl rfl ?_
  refine zi_l rfl rfl rfl ?_
  refine zi_a (st' := .int 2 :: .int 0 :: _) rfl rfl rfl ?_
  refine zi_a (st' := .int 2 :: _) rfl rfl rfl ?_
  refine one_ld rfl h.2.2.2.1 (by decide) rfl ?_
  refine zi_a rfl rfl rfl ?_
  refine zi_a (st' := .int 32 :: _) rfl rfl rfl ?_
  refine zi_a rfl rfl rfl ?_
  refine zi_l rfl rfl rfl ?_
  refine zi_l rfl rfl rfl ?_
  refine zi_a (st' := .int 3 :: .int 0 :: _) rfl rfl rfl ?_
  refine zi_a (st' := .int 3 :: _) rfl rfl rfl ?_
  refine one_ld rfl h.2.2.2.1 (by decide) rfl ?_
  refine zi_a rfl rfl rfl ?_
  refine zi_c2 (x := 4294967295) rfl rfl ?_
  refine zi_a rfl rfl rfl ?_
  refine zi_a (st' := .long (lj (xs 2) (xs 3)) :: _) rfl rfl rfl ?_
  refine zi_v rfl rfl rfl h.2.2.2.2.1 rfl rfl rfl (zOk.keep (cT_safe (by decide) hk1 h.2.2.2.2.2.2 (fun w2 h2 hk => ?_)))
  obtain ⟨hn, hm, hz⟩ := one_after h h2 hk
  show zOk _ _ 109 590 _ _ _ _
  refine zi_l rfl rfl rfl ?_
  refine zi_l rfl rfl rfl ?_
  refine zi_l rfl rfl rfl ?_
  refine zi_a (st' := .int 1 :: .int 0 :: _) rfl rfl rfl ?_
  refine zi_a (st' := .int 1 :: _) rfl rfl rfl ?_
  refine one_ld rfl hn (by decide) rfl ?_
  refine zi_l rfl rfl rfl ?_
  refine zi_l rfl rfl rfl ?_
  refine zi_a (st' := .int 2 :: .int 0 :: _) rfl rfl rfl ?_
  refine zi_a (st' := .int 2 :: _) rfl rfl rfl ?_
  refine one_ld rfl hn (by decide) rfl ?_
  refine zi_a rfl rfl rfl ?_
  refine zi_a (st' := .int 32 :: _) rfl rfl rfl ?_
  refine zi_a rfl rfl rfl ?_
  refine zi_l rfl rfl rfl ?_
  refine zi_l rfl rfl rfl ?_
  refine zi_a (st' := .int 3 :: .int 0 :: _) rfl rfl rfl ?_
  refine zi_a (st' := .int 3 :: _) rfl rfl rfl ?_
  refine one_ld rfl hn (by decide) rfl ?_
  refine zi_a rfl rfl rfl ?_
  refine zi_c2 (x := 4294967295) rfl rfl ?_
  refine zi_a rfl rfl rfl ?_
  refine zi_a (st' := .long (lj (xs 2) (xs 3)) :: _) rfl rfl rfl ?_
  refine zi_v rfl rfl rfl hm.1.1 rfl rfl rfl (mT_safe (by decide) hk2 hm (fun w3 h3 => ?_))
  show zOk _ _ 109 619 _ _ _ _
  refine zi_ifd (tgt := 624) rfl rfl rfl rfl (fun _ => ?_) (fun q => absurd rfl q)
  exact one_end (one_in h h3 hn hz hs1 hs2)
theorem law_9 {b b0 z : Nat} {xs : Nat → Int32} {w : zW} (h : oneAt b b0 z w) : zOk (b, 5, xs) 1000 109 462 (oneL b b0 0) [] w (oneP b0) := by
  by_cases hx : xs 1 = 0
  · exact law_9b h hx
  · exact law_9a h hx
set_option maxHeartbeats 4000000 in
set_option maxRecDepth 100000 in
theorem law_one {b b0 z L : Nat} {xs : Nat → Int32} {w : zW} (hL : L ≤ 5) (h : oneAt b b0 z w) : zOk (b, L, xs) 1000 109 16 [(0, .ref b), (1, .ref (b0 + 0)), (2, .ref (b0 + 16))] [] w (oneP b0) := by
  refine zi_a (st' := .int 0 :: _) rfl rfl rfl ?_
  refine zi_l rfl rfl rfl ?_
  show zOk _ _ 109 18 (oneL b b0 0) _ _ _
  by_cases hl : L = 5
  · subst hl
    unfold oneL
    refine zi_l rfl rfl rfl ?_
    refine zi_l rfl rfl rfl ?_
    refine zi_lenS rfl h.2.2.2.1 ?_
    refine zi_a (st' := .int 5 :: _) rfl rfl rfl ?_
    refine zi_a (st' := .int 0 :: _) rfl rfl rfl ?_
    refine zi_ifd (tgt := 630) rfl rfl rfl rfl (fun q => absurd q (by decide)) (fun _ => ?_)
    show zOk _ _ 109 26 _ _ _ _
    refine zi_l rfl rfl rfl ?_
    refine zi_l rfl rfl rfl ?_
    refine one_ld rfl h.2.2.2.1 (by decide) rfl ?_
    refine zi_a (st' := .int 15 :: _) rfl rfl rfl ?_
    refine zi_a (st' := .int (xs 0 &&& 15) :: _) rfl rfl rfl ?_
    have hx := one_15 (xs 0)
    generalize xs 0 &&& 15 = x at hx ⊢
    rcases hx with rfl | rfl | rfl | rfl | rfl | rfl | rfl | rfl | rfl | rfl | rfl | rfl | rfl | rfl | rfl | rfl
    · exact zi_si (tgt := 104) (off := 72) rfl (by decide) rfl rfl (law_0 h)
    · exact zi_si (tgt := 167) (off := 135) rfl (by decide) rfl rfl (law_1 h)
    · exact zi_si (tgt := 220) (off := 188) rfl (by decide) rfl rfl (law_2 h)
    · exact zi_si (tgt := 283) (off := 251) rfl (by decide) rfl rfl (law_3 h)
    · exact zi_si (tgt := 306) (off := 274) rfl (by decide) rfl rfl (law_4 h)
    · exact zi_si (tgt := 329) (off := 297) rfl (by decide) rfl rfl (law_5 h)
    · exact zi_si (tgt := 353) (off := 321) rfl (by decide) rfl rfl (law_6 h)
    · exact zi_si (tgt := 376) (off := 344) rfl (by decide) rfl rfl (law_7 h)
    · exact zi_si (tgt := 409) (off := 377) rfl (by decide) rfl rfl (law_8 h)
    · exact zi_si (tgt := 462) (off := 430) rfl (by decide) rfl rfl (law_9 h)
    · exact zi_si (tgt := 501) (off := 469) rfl (by decide) rfl rfl (law_10 h)
    · exact zi_si (tgt := 514) (off := 482) rfl (by decide) rfl rfl (law_11 h)
    · exact zi_si (tgt := 537) (off := 505) rfl (by decide) rfl rfl (law_12 h)
    · exact zi_si (tgt := 561) (off := 529) rfl (by decide) rfl rfl (law_13 h)
    · exact zi_sd (tgt := 624) rfl (by decide) rfl (one_end ⟨h.2.2.2.1, by rw [h.1]; show b0 + 44 ≤ _; omega, by rw [h.1]; have := h.2.1; show z ≤ _; omega⟩)
    · exact zi_sd (tgt := 624) rfl (by decide) rfl (one_end ⟨h.2.2.2.1, by rw [h.1]; show b0 + 44 ≤ _; omega, by rw [h.1]; have := h.2.1; show z ≤ _; omega⟩)
  · have e : L = 0 ∨ L = 1 ∨ L = 2 ∨ L = 3 ∨ L = 4 := by omega
    rcases e with rfl | rfl | rfl | rfl | rfl <;> exact one_few h (by decide)
