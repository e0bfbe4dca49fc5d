/-! THE REFERENCE's STATE: field f, element j (a field that is no array: element 0); ints and booleans, longs -/
abbrev mS : Type := (Nat → Nat → Int32) × (Nat → Nat → Int64)
def mu1 (μ : mS) (f j : Nat) (x : Int32) : mS := (fun a b => if a = f ∧ b = j then x else μ.1 a b, μ.2)
def mu2 (μ : mS) (f j : Nat) (x : Int64) : mS := (μ.1, fun a b => if a = f ∧ b = j then x else μ.2 a b)
/-- a new state, under a name -/
def mPut {α : Type} (x : mS) (k : mS → α) : α := k x
theorem mPut_eq {α : Type} (x : mS) (k : mS → α) : mPut x k = k x := rfl
/-- where a field's row lies behind the object (0: it is no row), its kind, its length -/
def mA (f : Nat) : Nat := match f with
  | 1 => 1 | 2 => 2 | 3 => 3 | 4 => 4 | 5 => 5 | 6 => 6 | 7 => 7 | 8 => 8 | 10 => 9 | 11 => 10 | 12 => 11 | 13 => 12 | 14 => 13 | 15 => 14 | 16 => 15 | 17 => 16 | 18 => 17 | 19 => 18 | 20 => 19 | 21 => 20 | 22 => 21 | 23 => 22 | 31 => 23 | 32 => 24 | 33 => 25 | 35 => 26 | 37 => 27 | f => cond (Nat.ble 38 f) 99 0
def mK (f : Nat) : Nat := match f with
  | 1 => 100 | 2 => 100 | 3 => 100 | 4 => 100 | 5 => 101 | 6 => 100 | 7 => 100 | 8 => 102 | 10 => 100 | 11 => 100 | 12 => 100 | 13 => 102 | 14 => 100 | 15 => 101 | 16 => 101 | 17 => 101 | 18 => 101 | 19 => 101 | 20 => 101 | 21 => 101 | 22 => 101 | 23 => 102 | 31 => 100 | 32 => 100 | 33 => 100 | 35 => 100 | 37 => 100 | 26 => 1 | _ => 0
def mN (f : Nat) : Nat := match f with
  | 10 => 500 | 11 => 500 | 12 => 500 | 13 => 500 | 14 => 500 | 15 => 500 | 16 => 500 | 17 => 500 | 18 => 500 | 19 => 16 | 20 => 16 | 21 => 16 | 22 => 16 | 23 => 16 | _ => 200
/-- what field f holds at j -/
def mV (μ : mS) (f j : Nat) : Value := cond (mK f == 101 || mK f == 1) (.long (μ.2 f j)) (.int (μ.1 f j))
/-- the fields that are rows -/
def mRows : List Nat := [1, 2, 3, 4, 5, 6, 7, 8, 10, 11, 12, 13, 14, 15, 16, 17, 18, 19, 20, 21, 22, 23, 31, 32, 33, 35, 37]
def mRep (m0 : Nat) (μ : mS) (w : zW) : Prop :=
  w.2.1 m0 = some (7, 38) ∧ (∀ f, mA f = 0 → w.2.2 m0 f = mV μ f 0) ∧ (∀ f, f ∈ mRows → w.2.2 m0 f = .ref (m0 + mA f) ∧ w.2.1 (m0 + mA f) = some (mK f, mN f)) ∧ ∀ f j, f ∈ mRows → j < mN f → w.2.2 (m0 + mA f) j = mV μ f j
/-- the world is w0 but for the reference's cells, and they hold μ -/
def mW (m0 : Nat) (w0 : zW) (μ : mS) (w : zW) : Prop := mRep m0 μ w ∧ w.1 = w0.1 ∧ ∀ a, (a < m0 ∨ m0 + 28 ≤ a) → w.2.1 a = w0.2.1 a ∧ w.2.2 a = w0.2.2 a
theorem mA_lt : ∀ f ∈ mRows, 0 < mA f ∧ mA f < 28 := by decide
theorem mA_inj : ∀ f ∈ mRows, ∀ g ∈ mRows, mA f = mA g → f = g := by decide
theorem mV_1 {μ : mS} {f g j k : Nat} {x : Int32} (h : ¬ (f = g ∧ j = k)) : mV (mu1 μ g k x) f j = mV μ f j := by
  simp [mV, mu1, h]
theorem mV_2 {μ : mS} {f g j k : Nat} {x : Int64} (h : ¬ (f = g ∧ j = k)) : mV (mu2 μ g k x) f j = mV μ f j := by
  simp [mV, mu2, h]
theorem mV_1s {μ : mS} {f j : Nat} {x : Int32} (hk : (mK f == 101 || mK f == 1) = false) : mV (mu1 μ f j x) f j = .int x := by
  simp [mV, mu1, hk]
theorem mV_2s {μ : mS} {f j : Nat} {x : Int64} (hk : (mK f == 101 || mK f == 1) = true) : mV (mu2 μ f j x) f j = .long x := by
  simp [mV, mu2, hk]
theorem zset_ne {w : zW} {a k b j : Nat} {v : Value} (h : ¬ (b = a ∧ j = k)) : (zset w a k v).2.2 b j = w.2.2 b j := if_neg h
theorem zset_eq {w : zW} {a k : Nat} {v : Value} : (zset w a k v).2.2 a k = v := if_pos ⟨rfl, rfl⟩
theorem zset_off {w : zW} {a k b : Nat} {v : Value} (h : b ≠ a) : (zset w a k v).2.2 b = w.2.2 b := by
  funext j
  exact if_neg (fun q => h q.1)
theorem mW.put {m0 : Nat} {w0 : zW} {μ μ' : mS} {w : zW} {f : Nat} {v : Value} (h : mW m0 w0 μ w) (hf : mA f = 0) (hv : mV μ' f 0 = v) (ho : ∀ g j, ¬ (g = f ∧ j = 0) → mV μ' g j = mV μ g j) : mW m0 w0 μ' (zset w m0 f v) := by
  obtain ⟨⟨h1, h2, h3, h4⟩, h5, h6⟩ := h
  have hfr : f ∉ mRows := fun q => by have := (mA_lt f q).1; omega
  refine ⟨⟨h1, fun g hg => ?_, fun g hg => ⟨?_, (h3 g hg).2⟩, fun g j hg hj => ?_⟩, h5, fun a ha => ⟨(h6 a ha).1, ?_⟩⟩
  · by_cases hgf : g = f
    · subst hgf; rw [zset_eq, hv]
    · rw [zset_ne (fun q => hgf q.2), ho g 0 (fun q => hgf q.1)]; exact h2 g hg
  · rw [zset_ne (fun q => hfr (by rw [← q.2]; exact hg))]; exact (h3 g hg).1
  · rw [zset_ne (fun q => by have := (mA_lt g hg).1; omega), ho g j (fun q => hfr (by rw [← q.1]; exact hg))]; exact h4 g j hg hj
  · rw [zset_off (by rintro rfl; rcases ha with h | h <;> omega)]; exact (h6 a ha).2
theorem mW.row {m0 : Nat} {w0 : zW} {μ μ' : mS} {w : zW} {f i : Nat} {v : Value} (h : mW m0 w0 μ w) (hf : f ∈ mRows) (hv : mV μ' f i = v) (ho : ∀ g j, ¬ (g = f ∧ j = i) → mV μ' g j = mV μ g j) : mW m0 w0 μ' (zset w (m0 + mA f) i v) := by
  obtain ⟨⟨h1, h2, h3, h4⟩, h5, h6⟩ := h
  have hl := mA_lt f hf
  refine ⟨⟨h1, fun g hg => ?_, fun g hg => ⟨?_, (h3 g hg).2⟩, fun g j hg hj => ?_⟩, h5, fun a ha => ⟨(h6 a ha).1, ?_⟩⟩
  · rw [zset_ne (fun q => by omega), ho g 0 (fun q => by rw [q.1] at hg; omega)]; exact h2 g hg
  · rw [zset_ne (fun q => by omega)]; exact (h3 g hg).1
  · by_cases hgf : g = f
    · subst hgf
      by_cases hj' : j = i
      · subst hj'; rw [zset_eq, hv]
      · rw [zset_ne (fun q => hj' q.2), ho g j (fun q => hj' q.2)]; exact h4 g j hg hj
    · rw [zset_ne (fun q => hgf (mA_inj g hg f hf (by omega))), ho g j (fun q => hgf q.1)]; exact h4 g j hg hj
  · rw [zset_off (by rintro rfl; rcases ha with h | h <;> omega)]; exact (h6 a ha).2
section ZM
variable {S : zS} {d mi pc : Nat} {L : List (Nat × Value)} {r : List Value} {w w0 : zW} {Post : Option Value → zW → Prop} {m0 : Nat} {μ : mS}
/-- a field that is an int or boolean; a long; a row -/
theorem zm_g {idx f : Nat} (h : mW m0 w0 μ w) (hd : zI mi pc = some (.getfield idx, 3)) (hf : zFld (zOC mi) idx = some (7, f)) (hk : mA f = 0) (hq : (mK f == 101 || mK f == 1) = false) (kk : zOk S d mi (pc + 3) L (.int (μ.1 f 0) :: r) w Post) : zOk S d mi pc L (.ref m0 :: r) w Post :=
  zi_get hd hf h.1.1 (by rw [h.1.2.1 f hk]; unfold mV; rw [hq]; rfl) kk
theorem zm_gl {idx f : Nat} (h : mW m0 w0 μ w) (hd : zI mi pc = some (.getfield idx, 3)) (hf : zFld (zOC mi) idx = some (7, f)) (hk : mA f = 0) (hq : (mK f == 101 || mK f == 1) = true) (kk : zOk S d mi (pc + 3) L (.long (μ.2 f 0) :: r) w Post) : zOk S d mi pc L (.ref m0 :: r) w Post :=
  zi_get hd hf h.1.1 (by rw [h.1.2.1 f hk]; unfold mV; rw [hq]; rfl) kk
theorem zm_ga {idx f : Nat} (h : mW m0 w0 μ w) (hd : zI mi pc = some (.getfield idx, 3)) (hf : zFld (zOC mi) idx = some (7, f)) (hk : f ∈ mRows) (kk : zOk S d mi (pc + 3) L (.ref (m0 + mA f) :: r) w Post) : zOk S d mi pc L (.ref m0 :: r) w Post :=
  zi_get hd hf h.1.1 (h.1.2.2.1 f hk).1 kk
theorem zm_v (h : mW m0 w0 μ w) {f j : Nat} (hf : f ∈ mRows) (hj : j < mN f) : w.2.2 (m0 + mA f) j = mV μ f j := h.1.2.2.2 f j hf hj
theorem zm_ld {f : Nat} {i : Int32} (h : mW m0 w0 μ w) (hd : zI mi pc = some (.iaload, 1)) (hk : f ∈ mRows) (hq : mK f = 100) (hi : zix i (mN f)) (kk : zOk S d mi (pc + 1) L (.int (μ.1 f i.toNatClampNeg) :: r) w Post) : zOk S d mi pc L (.int i :: .ref (m0 + mA f) :: r) w Post :=
  zi_ild hd (by rw [(h.1.2.2.1 f hk).2, hq]) hi (by rw [zm_v h hk (Nat.not_le.mp fun q => hi (Or.inr q))]; unfold mV; rw [hq]; rfl) kk
theorem zm_ll {f : Nat} {i : Int32} (h : mW m0 w0 μ w) (hd : zI mi pc = some (.laload, 1)) (hk : f ∈ mRows) (hq : mK f = 101) (hi : zix i (mN f)) (kk : zOk S d mi (pc + 1) L (.long (μ.2 f i.toNatClampNeg) :: r) w Post) : zOk S d mi pc L (.int i :: .ref (m0 + mA f) :: r) w Post :=
  zi_lld hd (by rw [(h.1.2.2.1 f hk).2, hq]) hi (by rw [zm_v h hk (Nat.not_le.mp fun q => hi (Or.inr q))]; unfold mV; rw [hq]; rfl) kk
theorem zm_lz {f : Nat} {i : Int32} (h : mW m0 w0 μ w) (hd : zI mi pc = some (.baload, 1)) (hk : f ∈ mRows) (hq : mK f = 102) (hi : zix i (mN f)) (kk : zOk S d mi (pc + 1) L (.int (μ.1 f i.toNatClampNeg) :: r) w Post) : zOk S d mi pc L (.int i :: .ref (m0 + mA f) :: r) w Post :=
  zi_zld hd (by rw [(h.1.2.2.1 f hk).2, hq]) hi (by rw [zm_v h hk (Nat.not_le.mp fun q => hi (Or.inr q))]; unfold mV; rw [hq]; rfl) kk
theorem zm_p {idx f : Nat} {x : Int32} (h : mW m0 w0 μ w) (hd : zI mi pc = some (.putfield idx, 3)) (hf : zFld (zOC mi) idx = some (7, f)) (hk : mA f = 0) (hq : (mK f == 101 || mK f == 1) = false) (hp : zPf mi 7 f (.int x)) (kk : ∀ w', mW m0 w0 (mu1 μ f 0 x) w' → zOk S d mi (pc + 3) L r w' Post) : zOk S d mi pc L (.int x :: .ref m0 :: r) w Post :=
  zi_put hd hf h.1.1 hp (kk _ (h.put hk (mV_1s hq) (fun g j hn => mV_1 hn)))
theorem zm_pl {idx f : Nat} {x : Int64} (h : mW m0 w0 μ w) (hd : zI mi pc = some (.putfield idx, 3)) (hf : zFld (zOC mi) idx = some (7, f)) (hk : mA f = 0) (hq : (mK f == 101 || mK f == 1) = true) (hp : zPf mi 7 f (.long x)) (kk : ∀ w', mW m0 w0 (mu2 μ f 0 x) w' → zOk S d mi (pc + 3) L r w' Post) : zOk S d mi pc L (.long x :: .ref m0 :: r) w Post :=
  zi_put hd hf h.1.1 hp (kk _ (h.put hk (mV_2s hq) (fun g j hn => mV_2 hn)))
theorem zm_st {f : Nat} {i x : Int32} (h : mW m0 w0 μ w) (hd : zI mi pc = some (.iastore, 1)) (hk : f ∈ mRows) (hq : mK f = 100) (hi : zix i (mN f)) (kk : ∀ w', mW m0 w0 (mu1 μ f i.toNatClampNeg x) w' → zOk S d mi (pc + 1) L r w' Post) : zOk S d mi pc L (.int x :: .int i :: .ref (m0 + mA f) :: r) w Post :=
  zi_ist hd (by rw [(h.1.2.2.1 f hk).2, hq]) hi (kk _ (h.row hk (mV_1s (by rw [hq]; rfl)) (fun g j hn => mV_1 hn)))
theorem zm_sl {f : Nat} {i : Int32} {x : Int64} (h : mW m0 w0 μ w) (hd : zI mi pc = some (.lastore, 1)) (hk : f ∈ mRows) (hq : mK f = 101) (hi : zix i (mN f)) (kk : ∀ w', mW m0 w0 (mu2 μ f i.toNatClampNeg x) w' → zOk S d mi (pc + 1) L r w' Post) : zOk S d mi pc L (.long x :: .int i :: .ref (m0 + mA f) :: r) w Post :=
  zi_lst hd (by rw [(h.1.2.2.1 f hk).2, hq]) hi (kk _ (h.row hk (mV_2s (by rw [hq]; rfl)) (fun g j hn => mV_2 hn)))
theorem zm_sz {f : Nat} {i x : Int32} (h : mW m0 w0 μ w) (hd : zI mi pc = some (.bastore, 1)) (hk : f ∈ mRows) (hq : mK f = 102) (hx : narrow .boolean (.int x) = .int x) (hi : zix i (mN f)) (kk : ∀ w', mW m0 w0 (mu1 μ f i.toNatClampNeg x) w' → zOk S d mi (pc + 1) L r w' Post) : zOk S d mi pc L (.int x :: .int i :: .ref (m0 + mA f) :: r) w Post :=
  zi_zst hd (by rw [(h.1.2.2.1 f hk).2, hq]) hx hi (kk _ (h.row hk (mV_1s (by rw [hq]; rfl)) (fun g j hn => mV_1 hn)))
/-- a call of the reference's own method -/
theorem zm_c {idx mj n : Nat} {rest st : List Value} (h : mW m0 w0 μ w) (hd : zI mi pc = some (.invokevirtual idx, 3)) (hm : zMt (zOC mi) idx = some (mj, n, 0)) (hs : st.drop n = .ref m0 :: rest) (hr : zRC mj = some 7) (hq : Nat.ble (zcs rest) 8 = true) (hf : Nat.ble (lg_sl (.ref m0 :: (st.take n).reverse)).length (zML mj) = true)
    (hc : zOk S d mj 0 (lv_args 0 (.ref m0 :: (st.take n).reverse)) [] w (fun v w' => zOk S (d + 1) mi (pc + 3) L (v.toList ++ rest) w' Post)) : zOk S (d + 1) mi pc L st w Post := zi_v hd hm hs h.1.1 hr hq hf hc
end ZM
