/-! THE START: the constructors, with all addresses as numbers behind b0 -/
def kW (b0 n z : Nat) (sh : Nat → Nat × Nat) (vl : Nat → Nat → Value) (w : zW) : Prop := w.1 = (b0 + n, z) ∧ (∀ i, i < n → w.2.1 (b0 + i) = some (sh i)) ∧ (∀ i j, i < n → w.2.2 (b0 + i) j = vl i j) ∧ ∀ a, (a < b0 ∨ b0 + n ≤ a) → w.2.1 a = none
theorem kW.push {b0 n z : Nat} {sh : Nat → Nat × Nat} {vl : Nat → Nat → Value} {w : zW} (h : kW b0 n z sh vl w) (c N : Nat) (f : Nat → Value) : kW b0 (n + 1) (z + N) (fun x => if x = n then (c, N) else sh x) (fun x j => if x = n then f j else vl x j) (zpush w c N f) := by
  obtain ⟨h1, h2, h3, h4⟩ := h
  have e1 : w.1.1 = b0 + n := by rw [h1]
  have e2 : w.1.2 = z := by rw [h1]
  refine ⟨?_, fun i hi => ?_, fun i j hi => ?_, fun a ha => ?_⟩
  · show (w.1.1 + 1, w.1.2 + N) = _
    rw [e1, e2]
    rfl
  · show (if b0 + i = w.1.1 then some (c, N) else w.2.1 (b0 + i)) = _
    rw [e1]
    dsimp only
    by_cases e : i = n
    · subst e; rw [if_pos rfl, if_pos rfl]
    · rw [if_neg (by omega), if_neg e]; exact h2 i (by omega)
  · show (if b0 + i = w.1.1 then f j else w.2.2 (b0 + i) j) = _
    rw [e1]
    dsimp only
    by_cases e : i = n
    · subst e; rw [if_pos rfl, if_pos rfl]
    · rw [if_neg (by omega), if_neg e]; exact h3 i j (by omega)
  · show (if a = w.1.1 then some (c, N) else w.2.1 a) = none
    rw [e1, if_neg (by omega)]
    exact h4 a (by omega)
theorem kW.set {b0 n z i k : Nat} {sh : Nat → Nat × Nat} {vl : Nat → Nat → Value} {w : zW} (h : kW b0 n z sh vl w) (v : Value) : kW b0 n z sh (fun x j => if x = i ∧ j = k then v else vl x j) (zset w (b0 + i) k v) := by
  obtain ⟨h1, h2, h3, h4⟩ := h
  refine ⟨h1, h2, fun x j hx => ?_, h4⟩
  show (if b0 + x = b0 + i ∧ j = k then v else w.2.2 (b0 + x) j) = _
  dsimp only
  by_cases e : x = i ∧ j = k
  · rw [if_pos ⟨by omega, e.2⟩, if_pos e]
  · rw [if_neg (fun q => e ⟨by omega, q.2⟩), if_neg e]; exact h3 x j hx
def mu0 : mS := (fun f _ => if f = 29 then -1 else 0, fun _ _ => 0)
def sg0 (z : Nat × Nat) : cS := ((fun c k _ => if c = 4 ∧ k = 5 then -1 else 0, (fun _ _ _ => 0), fun _ _ _ => none), (0, 0, z))
/-- what stands behind the constructors -/
def kF (b0 : Nat) (sh : Nat → Nat × Nat) (vl : Nat → Nat → Value) : Prop :=
  (∀ q ∈ cShp, sh q.1 = q.2) ∧ (∀ q ∈ cFix, vl (cO q.1) q.2.1 = .ref (b0 + q.2.2)) ∧ (∀ q ∈ cVal, vl (cO q.1) q.2 = cV (fun i => i) (fun i => i) (sg0 (0, 0)) q.1 q.2 0) ∧ (∀ c ∈ cRow, ∀ j, vl (cO c) j = cV (fun i => i) (fun i => i) (sg0 (0, 0)) c 0 j) ∧
  sh 16 = (7, 38) ∧ (∀ f, mA f = 0 → vl 16 f = mV mu0 f 0) ∧ (∀ f ∈ mRows, vl 16 f = .ref (b0 + 16 + mA f) ∧ sh (16 + mA f) = (mK f, mN f)) ∧ ∀ f ∈ mRows, ∀ j, vl (16 + mA f) j = mV mu0 f j
theorem mA_0 {f : Nat} (h : mA f = 0) : f = 0 ∨ f = 9 ∨ f = 24 ∨ f = 25 ∨ f = 26 ∨ f = 27 ∨ f = 28 ∨ f = 29 ∨ f = 30 ∨ f = 34 ∨ f = 36 := by
  have hl : f < 38 := by
    false_or_by_contra
    rename_i hn
    have hb : Nat.ble 38 f = true := Nat.ble_eq_true_of_le (by omega)
    unfold mA at h
    split at h <;> first | omega | (rw [hb] at h; cases h)
  have key : ∀ f, f < 38 → mA f = 0 → f = 0 ∨ f = 9 ∨ f = 24 ∨ f = 25 ∨ f = 26 ∨ f = 27 ∨ f = 28 ∨ f = 29 ∨ f = 30 ∨ f = 34 ∨ f = 36 := by decide
  exact key f hl h
theorem cV_sg {pa sa : Nat → Nat} {z : Nat × Nat} (c k j : Nat) : cV pa sa (sg0 z) c k j = cV (fun i => i) (fun i => i) (sg0 (0, 0)) c k j := by
  unfold cV
  split <;> rfl
theorem k_c {b0 z : Nat} {sh : Nat → Nat × Nat} {vl : Nat → Nat → Value} {w : zW} {pa sa : Nat → Nat} (h : kW b0 44 z sh vl w) (hf : kF b0 sh vl) : cW b0 w pa sa (sg0 (b0 + 44, z)) w := by
  obtain ⟨h1, h2, h3, h4⟩ := h
  obtain ⟨f1, f2, f3, f4, -⟩ := hf
  refine ⟨⟨h1, by rw [h1]; exact Nat.le_refl _, fun q hq => ?_, fun q hq => ?_, fun i hi => absurd hi (Nat.not_lt_zero _), fun i hi => absurd hi (Nat.not_lt_zero _), fun i j hi => absurd hi (Nat.not_lt_zero _), fun i j hi => absurd hi (Nat.not_lt_zero _), fun c k j ok => ?_⟩, fun a _ _ => ⟨rfl, rfl⟩, (⟨fun c k j i _ _ e => absurd e (by simp [sg0]), fun c k j i _ _ e => absurd e (by simp [sg0])⟩ : cFine _)⟩
  · have hq2 : q.1 < 16 := (by decide : ∀ q ∈ cShp, q.1 < 16) q hq
    rw [h2 q.1 (by omega), f1 q hq]
  · have hq2 := cO_f q hq
    rw [h3 _ _ (by omega), f2 q hq]
  · rcases ok with ⟨-, -, hj⟩ | ⟨-, -, hj⟩ | ⟨hv, rfl⟩ | ⟨hr, rfl, hj⟩
    · exact absurd hj (Nat.not_lt_zero _)
    · exact absurd hj (Nat.not_lt_zero _)
    · have o := cO_val _ hv
      rw [cB_o o.2.1 o.2.2.1, cP_lo o.2.2.2, h3 _ _ (by have := o.1; simp only at this; omega), cV_sg]
      exact f3 (c, k) hv
    · have o := cO_row _ hr
      rw [cB_o o.2.1 o.2.2.1, cP_hi o.2.2.2, h3 _ _ (by omega), cV_sg]
      exact f4 c hr j
theorem k_m {b0 z : Nat} {sh : Nat → Nat × Nat} {vl : Nat → Nat → Value} {w : zW} (h : kW b0 44 z sh vl w) (hf : kF b0 sh vl) : mW (b0 + 16) w mu0 w := by
  obtain ⟨h1, h2, h3, h4⟩ := h
  obtain ⟨-, -, -, -, f5, f6, f7, f8⟩ := hf
  refine ⟨⟨?_, fun f hf => ?_, fun f hf => ?_, fun f j hf hj => ?_⟩, rfl, fun a _ => ⟨rfl, rfl⟩⟩
  · rw [h2 16 (by decide), f5]
  · rw [h3 16 f (by decide), f6 f hf]
  · have := (mA_lt f hf).2
    refine ⟨by rw [h3 16 f (by decide), (f7 f hf).1], ?_⟩
    rw [Nat.add_assoc, h2 (16 + mA f) (by omega), (f7 f hf).2]
  · have := (mA_lt f hf).2
    rw [Nat.add_assoc, h3 (16 + mA f) j (by omega), f8 f hf j]
section ZKR
variable {S : zS} {d mi pc : Nat} {L : List (Nat × Value)} {r : List Value} {w : zW} {Post : Option Value → zW → Prop} {b0 n z : Nat} {sh : Nat → Nat × Nat} {vl : Nat → Nat → Value}
theorem kr_new {idx ci : Nat} (h : kW b0 n z sh vl w) (hd : zI mi pc = some (.new idx, 3)) (hf : zNew (zOC mi) idx = some ci) (kk : ∀ w2, kW b0 (n + 1) (z + zN ci) (fun x => if x = n then (ci, zN ci) else sh x) (fun x j => if x = n then zBl ci j else vl x j) w2 → zOk S d mi (pc + 3) L (.ref (b0 + n) :: r) w2 Post) : zOk S d mi pc L r w Post := by
  have e := kk _ (h.push ci (zN ci) (zBl ci))
  refine zi_new hd hf ?_
  rw [show w.1.1 = b0 + n by rw [h.1]]
  exact e
theorem kr_newa {t : Jvm.ClassFile.ArrayType} {m : Int32} {k N : Nat} (h : kW b0 n z sh vl w) (hd : zI mi pc = some (.newarray t, 2)) (hf : zNA t = some k) (hn : ¬ m < 0) (hN : m.toNatClampNeg = N) (hm : N ≤ 60000000) (kk : ∀ w2, kW b0 (n + 1) (z + N) (fun x => if x = n then (100 + k, N) else sh x) (fun x j => if x = n then defaultValue (zAK k) else vl x j) w2 → zOk S d mi (pc + 2) L (.ref (b0 + n) :: r) w2 Post) : zOk S d mi pc L (.int m :: r) w Post := by
  have e := kk _ (h.push (100 + k) N (fun _ => defaultValue (zAK k)))
  refine zi_newa hd hf hn hN hm ?_
  rw [show w.1.1 = b0 + n by rw [h.1]]
  exact e
theorem kr_newq {idx k N : Nat} {m : Int32} (h : kW b0 n z sh vl w) (hd : zI mi pc = some (.anewarray idx, 3)) (hf : zAN (zOC mi) idx = some k) (hn : ¬ m < 0) (hN : m.toNatClampNeg = N) (hm : N ≤ 60000000) (kk : ∀ w2, kW b0 (n + 1) (z + N) (fun x => if x = n then (100 + k, N) else sh x) (fun x j => if x = n then .null else vl x j) w2 → zOk S d mi (pc + 3) L (.ref (b0 + n) :: r) w2 Post) : zOk S d mi pc L (.int m :: r) w Post := by
  have e := kk _ (h.push (100 + k) N (fun _ => .null))
  refine zi_newq hd hf hn hN hm ?_
  rw [show w.1.1 = b0 + n by rw [h.1]]
  exact e
theorem kr_put {idx c k i N : Nat} {v : Value} (h : kW b0 n z sh vl w) (hd : zI mi pc = some (.putfield idx, 3)) (hf : zFld (zOC mi) idx = some (c, k)) (hi : i < n) (hs : sh i = (c, N)) (hp : zPf mi c k v) (kk : ∀ w2, kW b0 n z sh (fun x j => if x = i ∧ j = k then v else vl x j) w2 → zOk S d mi (pc + 3) L r w2 Post) : zOk S d mi pc L (v :: .ref (b0 + i) :: r) w Post :=
  zi_put hd hf (by rw [h.2.1 i hi, hs]) hp (kk _ (h.set v))
end ZKR
set_option maxHeartbeats 40000000 in
set_option maxRecDepth 100000 in
theorem law_start {b L b0 : Nat} {xs : Nat → Int32} {Post : Option Value → zW → Prop} (kk : ∀ (z : Nat) (sh : Nat → Nat × Nat) (vl : Nat → Nat → Value) (w : zW), z ≤ 100000 → kW b0 44 z sh vl w → kF b0 sh vl → zOk (b, L, xs) 1000 109 16 [(0, .ref b), (1, .ref (b0 + 0)), (2, .ref (b0 + 16))] [] w Post) : zOk (b, L, xs) 1000 109 0 [(0, .ref b)] [] ((b0, 0), (fun _ => none), fun _ _ => .null) Post := by
  have h : kW b0 0 0 (fun _ => (0, 0)) (fun _ _ => .null) ((b0, 0), (fun _ => none), fun _ _ => .null) := ⟨rfl, fun i hi => absurd hi (Nat.not_lt_zero _), fun i j hi => absurd hi (Nat.not_lt_zero _), fun _ _ => rfl⟩
  revert h
  generalize (((b0, 0), (fun _ => none), fun _ _ => .null) : zW) = w
  intro h
  refine kr_new h rfl rfl (fun w h => ?_)
  refine zi_a rfl rfl rfl ?_
  refine zi_i rfl rfl rfl rfl rfl ?_
  refine zi_l rfl rfl rfl ?_
  refine zi_o rfl rfl rfl rfl ?_
  refine zi_l rfl rfl rfl ?_
  refine kr_new h rfl rfl (fun w h => ?_)
  refine zi_a rfl rfl rfl ?_
  refine zi_i rfl rfl rfl rfl rfl ?_
  refine zi_l rfl rfl rfl ?_
  refine zi_o rfl rfl rfl rfl ?_
  refine zi_l rfl rfl rfl ?_
  refine zi_a (st' := .int 200 :: _) rfl rfl rfl ?_
  refine kr_newq (N := 200) h rfl rfl (by decide) (by decide) (by decide) (fun w h => ?_)
  refine kr_put h rfl rfl (by decide) rfl ⟨rfl, rfl, Or.inr ⟨rfl, rfl, rfl⟩⟩ (fun w h => ?_)
  refine zi_ret rfl rfl rfl ?_
  show zOk _ _ 1 12 _ _ _ _
  refine kr_put h rfl rfl (by decide) rfl ⟨rfl, rfl, Or.inr ⟨rfl, rfl, rfl⟩⟩ (fun w h => ?_)
  refine zi_l rfl rfl rfl ?_
  refine kr_new h rfl rfl (fun w h => ?_)
  refine zi_a rfl rfl rfl ?_
  refine zi_i rfl rfl rfl rfl rfl ?_
  refine zi_l rfl rfl rfl ?_
  refine zi_o rfl rfl rfl rfl ?_
  refine zi_l rfl rfl rfl ?_
  refine kr_new h rfl rfl (fun w h => ?_)
  refine zi_a rfl rfl rfl ?_
  refine zi_i rfl rfl rfl rfl rfl ?_
  refine zi_l rfl rfl rfl ?_
  refine zi_o rfl rfl rfl rfl ?_
  refine zi_l rfl rfl rfl ?_
  refine zi_a (st' := .int 16 :: _) rfl rfl rfl ?_
  refine kr_newa (N := 16) h rfl rfl (by decide) (by decide) (by decide) (fun w h => ?_)
  refine kr_put h rfl rfl (by decide) rfl ⟨rfl, rfl, Or.inr ⟨rfl, rfl, rfl⟩⟩ (fun w h => ?_)
  refine zi_l rfl rfl rfl ?_
  refine zi_a (st' := .int 16 :: _) rfl rfl rfl ?_
  refine kr_newa (N := 16) h rfl rfl (by decide) (by decide) (by decide) (fun w h => ?_)
  refine kr_put h rfl rfl (by decide) rfl ⟨rfl, rfl, Or.inr ⟨rfl, rfl, rfl⟩⟩ (fun w h => ?_)
  refine zi_l rfl rfl rfl ?_
  refine zi_a (st' := .int 16 :: _) rfl rfl rfl ?_
  refine kr_newa (N := 16) h rfl rfl (by decide) (by decide) (by decide) (fun w h => ?_)
  refine kr_put h rfl rfl (by decide) rfl ⟨rfl, rfl, Or.inr ⟨rfl, rfl, rfl⟩⟩ (fun w h => ?_)
  refine zi_l rfl rfl rfl ?_
  refine zi_a (st' := .int 16 :: _) rfl rfl rfl ?_
  refine kr_newa (N := 16) h rfl rfl (by decide) (by decide) (by decide) (fun w h => ?_)
  refine kr_put h rfl rfl (by decide) rfl ⟨rfl, rfl, Or.inr ⟨rfl, rfl, rfl⟩⟩ (fun w h => ?_)
  refine zi_l rfl rfl rfl ?_
  refine zi_a (st' := .int 16 :: _) rfl rfl rfl ?_
  refine kr_newa (N := 16) h rfl rfl (by decide) (by decide) (by decide) (fun w h => ?_)
  refine kr_put h rfl rfl (by decide) rfl ⟨rfl, rfl, Or.inr ⟨rfl, rfl, rfl⟩⟩ (fun w h => ?_)
  refine zi_ret rfl rfl rfl ?_
  show zOk _ _ 3 12 _ _ _ _
  refine kr_put h rfl rfl (by decide) rfl ⟨rfl, rfl, Or.inr ⟨rfl, rfl, rfl⟩⟩ (fun w h => ?_)
  refine zi_l rfl rfl rfl ?_
  refine kr_new h rfl rfl (fun w h => ?_)
  refine zi_a rfl rfl rfl ?_
  refine zi_i rfl rfl rfl rfl rfl ?_
  refine zi_l rfl rfl rfl ?_
  refine zi_o rfl rfl rfl rfl ?_
  refine zi_l rfl rfl rfl ?_
  refine zi_a (st' := .int 200 :: _) rfl rfl rfl ?_
  refine kr_newa (N := 200) h rfl rfl (by decide) (by decide) (by decide) (fun w h => ?_)
  refine kr_put h rfl rfl (by decide) rfl ⟨rfl, rfl, Or.inr ⟨rfl, rfl, rfl⟩⟩ (fun w h => ?_)
  refine zi_l rfl rfl rfl ?_
  refine zi_a (st' := .int 200 :: _) rfl rfl rfl ?_
  refine kr_newa (N := 200) h rfl rfl (by decide) (by decide) (by decide) (fun w h => ?_)
  refine kr_put h rfl rfl (by decide) rfl ⟨rfl, rfl, Or.inr ⟨rfl, rfl, rfl⟩⟩ (fun w h => ?_)
  refine zi_l rfl rfl rfl ?_
  refine zi_a (st' := .int 200 :: _) rfl rfl rfl ?_
  refine kr_newa (N := 200) h rfl rfl (by decide) (by decide) (by decide) (fun w h => ?_)
  refine kr_put h rfl rfl (by decide) rfl ⟨rfl, rfl, Or.inr ⟨rfl, rfl, rfl⟩⟩ (fun w h => ?_)
  refine zi_l rfl rfl rfl ?_
  refine zi_a (st' := .int 200 :: _) rfl rfl rfl ?_
  refine kr_newa (N := 200) h rfl rfl (by decide) (by decide) (by decide) (fun w h => ?_)
  refine kr_put h rfl rfl (by decide) rfl ⟨rfl, rfl, Or.inr ⟨rfl, rfl, rfl⟩⟩ (fun w h => ?_)
  refine zi_ret rfl rfl rfl ?_
  show zOk _ _ 3 23 _ _ _ _
  refine kr_put h rfl rfl (by decide) rfl ⟨rfl, rfl, Or.inr ⟨rfl, rfl, rfl⟩⟩ (fun w h => ?_)
  refine zi_l rfl rfl rfl ?_
  refine zi_a (st' := .int 500 :: _) rfl rfl rfl ?_
  refine kr_newq (N := 500) h rfl rfl (by decide) (by decide) (by decide) (fun w h => ?_)
  refine kr_put h rfl rfl (by decide) rfl ⟨rfl, rfl, Or.inr ⟨rfl, rfl, rfl⟩⟩ (fun w h => ?_)
  refine zi_l rfl rfl rfl ?_
  refine zi_a (st' := .int (-1) :: _) rfl rfl rfl ?_
  refine kr_put h rfl rfl (by decide) rfl ⟨rfl, rfl, Or.inl rfl⟩ (fun w h => ?_)
  refine zi_ret rfl rfl rfl ?_
  show zOk _ _ 1 23 _ _ _ _
  refine kr_put h rfl rfl (by decide) rfl ⟨rfl, rfl, Or.inr ⟨rfl, rfl, rfl⟩⟩ (fun w h => ?_)
  refine zi_ret rfl rfl rfl ?_
  show zOk _ _ 109 7 _ _ _ _
  refine zi_l rfl rfl rfl ?_
  refine kr_new h rfl rfl (fun w h => ?_)
  refine zi_a rfl rfl rfl ?_
  refine zi_i rfl rfl rfl rfl rfl ?_
  refine zi_l rfl rfl rfl ?_
  refine zi_o rfl rfl rfl rfl ?_
  refine zi_l rfl rfl rfl ?_
  refine zi_a (st' := .int 200 :: _) rfl rfl rfl ?_
  refine kr_newa (N := 200) h rfl rfl (by decide) (by decide) (by decide) (fun w h => ?_)
  refine kr_put h rfl rfl (by decide) rfl ⟨rfl, rfl, Or.inr ⟨rfl, rfl, rfl⟩⟩ (fun w h => ?_)
  refine zi_l rfl rfl rfl ?_
  refine zi_a (st' := .int 200 :: _) rfl rfl rfl ?_
  refine kr_newa (N := 200) h rfl rfl (by decide) (by decide) (by decide) (fun w h => ?_)
  refine kr_put h rfl rfl (by decide) rfl ⟨rfl, rfl, Or.inr ⟨rfl, rfl, rfl⟩⟩ (fun w h => ?_)
  refine zi_l rfl rfl rfl ?_
  refine zi_a (st' := .int 200 :: _) rfl rfl rfl ?_
  refine kr_newa (N := 200) h rfl rfl (by decide) (by decide) (by decide) (fun w h => ?_)
  refine kr_put h rfl rfl (by decide) rfl ⟨rfl, rfl, Or.inr ⟨rfl, rfl, rfl⟩⟩ (fun w h => ?_)
  refine zi_l rfl rfl rfl ?_
  refine zi_a (st' := .int 200 :: _) rfl rfl rfl ?_
  refine kr_newa (N := 200) h rfl rfl (by decide) (by decide) (by decide) (fun w h => ?_)
  refine kr_put h rfl rfl (by decide) rfl ⟨rfl, rfl, Or.inr ⟨rfl, rfl, rfl⟩⟩ (fun w h => ?_)
  refine zi_l rfl rfl rfl ?_
  refine zi_a (st' := .int 200 :: _) rfl rfl rfl ?_
  refine kr_newa (N := 200) h rfl rfl (by decide) (by decide) (by decide) (fun w h => ?_)
  refine kr_put h rfl rfl (by decide) rfl ⟨rfl, rfl, Or.inr ⟨rfl, rfl, rfl⟩⟩ (fun w h => ?_)
  refine zi_l rfl rfl rfl ?_
  refine zi_a (st' := .int 200 :: _) rfl rfl rfl ?_
  refine kr_newa (N := 200) h rfl rfl (by decide) (by decide) (by decide) (fun w h => ?_)
  refine kr_put h rfl rfl (by decide) rfl ⟨rfl, rfl, Or.inr ⟨rfl, rfl, rfl⟩⟩ (fun w h => ?_)
  refine zi_l rfl rfl rfl ?_
  refine zi_a (st' := .int 200 :: _) rfl rfl rfl ?_
  refine kr_newa (N := 200) h rfl rfl (by decide) (by decide) (by decide) (fun w h => ?_)
  refine kr_put h rfl rfl (by decide) rfl ⟨rfl, rfl, Or.inr ⟨rfl, rfl, rfl⟩⟩ (fun w h => ?_)
  refine zi_l rfl rfl rfl ?_
  refine zi_a (st' := .int 200 :: _) rfl rfl rfl ?_
  refine kr_newa (N := 200) h rfl rfl (by decide) (by decide) (by decide) (fun w h => ?_)
  refine kr_put h rfl rfl (by decide) rfl ⟨rfl, rfl, Or.inr ⟨rfl, rfl, rfl⟩⟩ (fun w h => ?_)
  refine zi_l rfl rfl rfl ?_
  refine zi_a (st' := .int 500 :: _) rfl rfl rfl ?_
  refine kr_newa (N := 500) h rfl rfl (by decide) (by decide) (by decide) (fun w h => ?_)
  refine kr_put h rfl rfl (by decide) rfl ⟨rfl, rfl, Or.inr ⟨rfl, rfl, rfl⟩⟩ (fun w h => ?_)
  refine zi_l rfl rfl rfl ?_
  refine zi_a (st' := .int 500 :: _) rfl rfl rfl ?_
  refine kr_newa (N := 500) h rfl rfl (by decide) (by decide) (by decide) (fun w h => ?_)
  refine kr_put h rfl rfl (by decide) rfl ⟨rfl, rfl, Or.inr ⟨rfl, rfl, rfl⟩⟩ (fun w h => ?_)
  refine zi_l rfl rfl rfl ?_
  refine zi_a (st' := .int 500 :: _) rfl rfl rfl ?_
  refine kr_newa (N := 500) h rfl rfl (by decide) (by decide) (by decide) (fun w h => ?_)
  refine kr_put h rfl rfl (by decide) rfl ⟨rfl, rfl, Or.inr ⟨rfl, rfl, rfl⟩⟩ (fun w h => ?_)
  refine zi_l rfl rfl rfl ?_
  refine zi_a (st' := .int 500 :: _) rfl rfl rfl ?_
  refine kr_newa (N := 500) h rfl rfl (by decide) (by decide) (by decide) (fun w h => ?_)
  refine kr_put h rfl rfl (by decide) rfl ⟨rfl, rfl, Or.inr ⟨rfl, rfl, rfl⟩⟩ (fun w h => ?_)
  refine zi_l rfl rfl rfl ?_
  refine zi_a (st' := .int 500 :: _) rfl rfl rfl ?_
  refine kr_newa (N := 500) h rfl rfl (by decide) (by decide) (by decide) (fun w h => ?_)
  refine kr_put h rfl rfl (by decide) rfl ⟨rfl, rfl, Or.inr ⟨rfl, rfl, rfl⟩⟩ (fun w h => ?_)
  refine zi_l rfl rfl rfl ?_
  refine zi_a (st' := .int 500 :: _) rfl rfl rfl ?_
  refine kr_newa (N := 500) h rfl rfl (by decide) (by decide) (by decide) (fun w h => ?_)
  refine kr_put h rfl rfl (by decide) rfl ⟨rfl, rfl, Or.inr ⟨rfl, rfl, rfl⟩⟩ (fun w h => ?_)
  refine zi_l rfl rfl rfl ?_
  refine zi_a (st' := .int 500 :: _) rfl rfl rfl ?_
  refine kr_newa (N := 500) h rfl rfl (by decide) (by decide) (by decide) (fun w h => ?_)
  refine kr_put h rfl rfl (by decide) rfl ⟨rfl, rfl, Or.inr ⟨rfl, rfl, rfl⟩⟩ (fun w h => ?_)
  refine zi_l rfl rfl rfl ?_
  refine zi_a (st' := .int 500 :: _) rfl rfl rfl ?_
  refine kr_newa (N := 500) h rfl rfl (by decide) (by decide) (by decide) (fun w h => ?_)
  refine kr_put h rfl rfl (by decide) rfl ⟨rfl, rfl, Or.inr ⟨rfl, rfl, rfl⟩⟩ (fun w h => ?_)
  refine zi_l rfl rfl rfl ?_
  refine zi_a (st' := .int 500 :: _) rfl rfl rfl ?_
  refine kr_newa (N := 500) h rfl rfl (by decide) (by decide) (by decide) (fun w h => ?_)
  refine kr_put h rfl rfl (by decide) rfl ⟨rfl, rfl, Or.inr ⟨rfl, rfl, rfl⟩⟩ (fun w h => ?_)
  refine zi_l rfl rfl rfl ?_
  refine zi_a (st' := .int 16 :: _) rfl rfl rfl ?_
  refine kr_newa (N := 16) h rfl rfl (by decide) (by decide) (by decide) (fun w h => ?_)
  refine kr_put h rfl rfl (by decide) rfl ⟨rfl, rfl, Or.inr ⟨rfl, rfl, rfl⟩⟩ (fun w h => ?_)
  refine zi_l rfl rfl rfl ?_
  refine zi_a (st' := .int 16 :: _) rfl rfl rfl ?_
  refine kr_newa (N := 16) h rfl rfl (by decide) (by decide) (by decide) (fun w h => ?_)
  refine kr_put h rfl rfl (by decide) rfl ⟨rfl, rfl, Or.inr ⟨rfl, rfl, rfl⟩⟩ (fun w h => ?_)
  refine zi_l rfl rfl rfl ?_
  refine zi_a (st' := .int 16 :: _) rfl rfl rfl ?_
  refine kr_newa (N := 16) h rfl rfl (by decide) (by decide) (by decide) (fun w h => ?_)
  refine kr_put h rfl rfl (by decide) rfl ⟨rfl, rfl, Or.inr ⟨rfl, rfl, rfl⟩⟩ (fun w h => ?_)
  refine zi_l rfl rfl rfl ?_
  refine zi_a (st' := .int 16 :: _) rfl rfl rfl ?_
  refine kr_newa (N := 16) h rfl rfl (by decide) (by decide) (by decide) (fun w h => ?_)
  refine kr_put h rfl rfl (by decide) rfl ⟨rfl, rfl, Or.inr ⟨rfl, rfl, rfl⟩⟩ (fun w h => ?_)
  refine zi_l rfl rfl rfl ?_
  refine zi_a (st' := .int 16 :: _) rfl rfl rfl ?_
  refine kr_newa (N := 16) h rfl rfl (by decide) (by decide) (by decide) (fun w h => ?_)
  refine kr_put h rfl rfl (by decide) rfl ⟨rfl, rfl, Or.inr ⟨rfl, rfl, rfl⟩⟩ (fun w h => ?_)
  refine zi_l rfl rfl rfl ?_
  refine zi_a (st' := .int (-1) :: _) rfl rfl rfl ?_
  refine kr_put h rfl rfl (by decide) rfl ⟨rfl, rfl, Or.inl rfl⟩ (fun w h => ?_)
  refine zi_l rfl rfl rfl ?_
  refine zi_a (st' := .int 200 :: _) rfl rfl rfl ?_
  refine kr_newa (N := 200) h rfl rfl (by decide) (by decide) (by decide) (fun w h => ?_)
  refine kr_put h rfl rfl (by decide) rfl ⟨rfl, rfl, Or.inr ⟨rfl, rfl, rfl⟩⟩ (fun w h => ?_)
  refine zi_l rfl rfl rfl ?_
  refine zi_a (st' := .int 200 :: _) rfl rfl rfl ?_
  refine kr_newa (N := 200) h rfl rfl (by decide) (by decide) (by decide) (fun w h => ?_)
  refine kr_put h rfl rfl (by decide) rfl ⟨rfl, rfl, Or.inr ⟨rfl, rfl, rfl⟩⟩ (fun w h => ?_)
  refine zi_l rfl rfl rfl ?_
  refine zi_a (st' := .int 200 :: _) rfl rfl rfl ?_
  refine kr_newa (N := 200) h rfl rfl (by decide) (by decide) (by decide) (fun w h => ?_)
  refine kr_put h rfl rfl (by decide) rfl ⟨rfl, rfl, Or.inr ⟨rfl, rfl, rfl⟩⟩ (fun w h => ?_)
  refine zi_l rfl rfl rfl ?_
  refine zi_a (st' := .int 200 :: _) rfl rfl rfl ?_
  refine kr_newa (N := 200) h rfl rfl (by decide) (by decide) (by decide) (fun w h => ?_)
  refine kr_put h rfl rfl (by decide) rfl ⟨rfl, rfl, Or.inr ⟨rfl, rfl, rfl⟩⟩ (fun w h => ?_)
  refine zi_l rfl rfl rfl ?_
  refine zi_a (st' := .int 200 :: _) rfl rfl rfl ?_
  refine kr_newa (N := 200) h rfl rfl (by decide) (by decide) (by decide) (fun w h => ?_)
  refine kr_put h rfl rfl (by decide) rfl ⟨rfl, rfl, Or.inr ⟨rfl, rfl, rfl⟩⟩ (fun w h => ?_)
  refine zi_ret rfl rfl rfl ?_
  show zOk _ _ 109 15 _ _ _ _
  refine zi_l rfl rfl rfl ?_
  exact kk _ _ _ w (Nat.le_of_ble_eq_true rfl) h (by
    refine ⟨by decide, ?_, ?_, ?_, rfl, ?_, ?_, ?_⟩
    · intro q hq
      simp only [cFix, List.mem_cons, List.not_mem_nil, or_false] at hq
      rcases hq with rfl | rfl | rfl | rfl | rfl | rfl | rfl | rfl | rfl | rfl | rfl | rfl | rfl | rfl | rfl <;> rfl
    · intro q hq
      simp only [cVal, List.mem_cons, List.not_mem_nil, or_false] at hq
      rcases hq with rfl | rfl | rfl | rfl | rfl | rfl | rfl | rfl | rfl | rfl <;> rfl
    · intro q hq
      simp only [cRow, List.mem_cons, List.not_mem_nil, or_false] at hq
      rcases hq with rfl | rfl | rfl | rfl | rfl | rfl | rfl | rfl | rfl | rfl | rfl <;> exact fun _ => rfl
    · intro f hf
      rcases mA_0 hf with rfl | rfl | rfl | rfl | rfl | rfl | rfl | rfl | rfl | rfl | rfl <;> rfl
    · intro q hq
      simp only [mRows, List.mem_cons, List.not_mem_nil, or_false] at hq
      rcases hq with rfl | rfl | rfl | rfl | rfl | rfl | rfl | rfl | rfl | rfl | rfl | rfl | rfl | rfl | rfl | rfl | rfl | rfl | rfl | rfl | rfl | rfl | rfl | rfl | rfl | rfl | rfl <;> exact ⟨rfl, rfl⟩
    · intro q hq
      simp only [mRows, List.mem_cons, List.not_mem_nil, or_false] at hq
      rcases hq with rfl | rfl | rfl | rfl | rfl | rfl | rfl | rfl | rfl | rfl | rfl | rfl | rfl | rfl | rfl | rfl | rfl | rfl | rfl | rfl | rfl | rfl | rfl | rfl | rfl | rfl | rfl <;> exact fun _ => rfl)
