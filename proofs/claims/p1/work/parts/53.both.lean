/-! shapes stay; class and reference in one world -/
theorem zhp_shape {S : zS} {mi len : Nat} {ins : Jvm.ClassFile.Instr} {st st' : List Value} {w w' : zW} (h : zhp S mi ins len st w = some (st', w')) : ∀ a, a < w.1.1 → w'.2.1 a = w.2.1 a := by
  intro a ha
  unfold zhp at h
  (repeat' split at h) <;> first
    | (cases h; rfl)
    | (cases h; exact if_neg (Nat.ne_of_lt ha))
    | cases h
theorem zgo_shape {S : zS} : ∀ (n : Nat) {d mi pc : Nat} {L : List (Nat × Value)} {st : List Value} {w wf : zW} {r : Option Value}, zgo S n d mi pc L st w = some (r, wf) → ∀ a, a < w.1.1 → wf.2.1 a = w.2.1 a := by
  intro n
  induction n with
  | zero => intro d mi pc L st w wf r h; simp [zgo] at h
  | succ n ih =>
    intro d mi pc L st w wf r h a ha
    rw [zgo] at h
    cases hd : decode (zCode mi) pc with
    | error x => rw [hd] at h; simp at h
    | ok q =>
      obtain ⟨ins, len⟩ := q
      rw [hd] at h
      dsimp only at h
      cases hz : zst S mi ins len pc L st w with
      | none => rw [hz] at h; simp at h
      | some q =>
        rw [hz] at h
        obtain ⟨pc', L', st', w'⟩ | ⟨mj, as, rest⟩ | v := q
        · have h2 : (w.1.1 ≤ w'.1.1) ∧ w'.2.1 a = w.2.1 a := by
            unfold zst at hz
            split at hz
            · obtain ⟨q, -, hq⟩ := Option.map_eq_some_iff.mp hz; cases hq; exact ⟨Nat.le_refl _, rfl⟩
            · obtain ⟨q, -, hq⟩ := Option.map_eq_some_iff.mp hz; cases hq; exact ⟨Nat.le_refl _, rfl⟩
            · obtain ⟨q, -, hq⟩ := Option.map_eq_some_iff.mp hz; cases hq; exact ⟨Nat.le_refl _, rfl⟩
            · obtain ⟨q, h9, hq⟩ := Option.map_eq_some_iff.mp hz; cases hq; exact ⟨(zhp_grow h9).1, zhp_shape h9 a ha⟩
            · obtain ⟨q, -, hq⟩ := Option.map_eq_some_iff.mp hz; cases hq
            · obtain ⟨q, -, hq⟩ := Option.map_eq_some_iff.mp hz; cases hq
            · cases hz
          rw [ih h a (by omega), h2.2]
        · dsimp only at h
          cases d with
          | zero => simp at h
          | succ d =>
            dsimp only at h
            cases hc : zgo S n d mj 0 (lv_args 0 as) [] w with
            | none => rw [hc] at h; simp at h
            | some q =>
              obtain ⟨v, w'⟩ := q
              rw [hc] at h
              have h1 := zgo_grow n hc
              rw [ih h a (by omega), ih hc a ha]
        · cases h; rfl
theorem zOk.keep {S : zS} {d mi pc : Nat} {L : List (Nat × Value)} {st : List Value} {w : zW} {Post : Option Value → zW → Prop} (h : zOk S d mi pc L st w (fun v w2 => (w.1.1 ≤ w2.1.1 ∧ ∀ a, a < w.1.1 → w2.2.1 a = w.2.1 a) → Post v w2)) : zOk S d mi pc L st w Post := by
  obtain ⟨n, v, wf, h1, h2⟩ := h
  exact ⟨n, v, wf, h1, h2 ⟨(zgo_grow n h1).1, zgo_shape n h1⟩⟩
/-- both in one world; the script's cell is no cell of ours -/
def bW (b b0 : Nat) (pa sa : Nat → Nat) (σ : cS) (μ : mS) (w : zW) : Prop := cRep b0 pa sa σ w ∧ cFine σ ∧ mRep (b0 + 16) μ w ∧ b < b0 ∧ w.2.1 b = none
theorem bW.c {b b0 : Nat} {pa sa : Nat → Nat} {σ : cS} {μ : mS} {w : zW} (h : bW b b0 pa sa σ μ w) : cW b0 w pa sa σ w := ⟨h.1, fun _ _ _ => ⟨rfl, rfl⟩, h.2.1⟩
theorem bW.m {b b0 : Nat} {pa sa : Nat → Nat} {σ : cS} {μ : mS} {w : zW} (h : bW b b0 pa sa σ μ w) : mW (b0 + 16) w μ w := ⟨h.2.2.1, rfl, fun _ _ => ⟨rfl, rfl⟩⟩
theorem mRep.same {m0 : Nat} {μ : mS} {w w2 : zW} (h : mRep m0 μ w) (hs : ∀ a, m0 ≤ a → a < m0 + 28 → w2.2.1 a = w.2.1 a ∧ w2.2.2 a = w.2.2 a) : mRep m0 μ w2 := by
  obtain ⟨h1, h2, h3, h4⟩ := h
  have e0 := hs m0 (Nat.le_refl _) (by omega)
  refine ⟨by rw [e0.1]; exact h1, fun f hf => by rw [e0.2]; exact h2 f hf, fun f hf => ?_, fun f j hf hj => ?_⟩
  · have hl := mA_lt f hf
    have e := hs (m0 + mA f) (by omega) (by omega)
    rw [e0.2, e.1]
    exact h3 f hf
  · have hl := mA_lt f hf
    have e := hs (m0 + mA f) (by omega) (by omega)
    rw [e.2]
    exact h4 f j hf hj
theorem cRep.same {b0 : Nat} {pa sa : Nat → Nat} {σ : cS} {w w2 : zW} (h : cRep b0 pa sa σ w) (h1 : w2.1 = w.1) (hs : ∀ a, (a < b0 + 16 ∨ b0 + 44 ≤ a) → w2.2.1 a = w.2.1 a ∧ w2.2.2 a = w.2.2 a) : cRep b0 pa sa σ w2 := by
  have hR := h
  obtain ⟨g1, g2, g3, g4, g5, g6, g7, g8, g9⟩ := h
  refine ⟨h1.trans g1, by rw [h1]; exact g2, fun q hq => ?_, fun q hq => ?_, fun i hi => ?_, fun i hi => ?_, g7, g8, fun c k j ok => ?_⟩
  · have hq2 : q.1 < 16 := (by decide : ∀ q ∈ cShp, q.1 < 16) q hq
    rw [(hs _ (Or.inl (by omega))).1]; exact g3 q hq
  · have hq2 := cO_f q hq
    rw [(hs _ (Or.inl (by omega))).2]; exact g4 q hq
  · obtain ⟨k1, k2, k3⟩ := g5 i hi
    rw [(hs _ (Or.inr k2)).1, h1]; exact ⟨k1, k2, k3⟩
  · obtain ⟨k1, k2, k3⟩ := g6 i hi
    rw [(hs _ (Or.inr k2)).1, h1]; exact ⟨k1, k2, k3⟩
  · have o := cB_out hR ok
    rw [(hs _ (by omega)).2]; exact g9 c k j ok
theorem bW.afterC {b b0 : Nat} {pa sa pa2 sa2 : Nat → Nat} {σ σ2 : cS} {μ : mS} {w w2 : zW} (h : bW b b0 pa sa σ μ w) (h2 : cW b0 w pa2 sa2 σ2 w2) (hk : w.1.1 ≤ w2.1.1 ∧ ∀ a, a < w.1.1 → w2.2.1 a = w.2.1 a) : bW b b0 pa2 sa2 σ2 μ w2 :=
  ⟨h2.1, h2.2.2, h.2.2.1.same (fun a h3 h4 => h2.2.1 a h3 (by omega)), h.2.2.2.1, by have := h.1.2.1; have := h.2.2.2.1; rw [hk.2 b (by omega)]; exact h.2.2.2.2⟩
theorem bW.afterM {b b0 : Nat} {pa sa : Nat → Nat} {σ : cS} {μ μ2 : mS} {w w2 : zW} (h : bW b b0 pa sa σ μ w) (h2 : mW (b0 + 16) w μ2 w2) : bW b b0 pa sa σ μ2 w2 :=
  ⟨h.1.same h2.2.1 (fun a ha => h2.2.2 a (by omega)), h.2.1, h2.1, h.2.2.2.1, by have := h.2.2.2.1; rw [(h2.2.2 b (Or.inl (by omega))).1]; exact h.2.2.2.2⟩
/-- fewer Parts: what was refused is forgotten -/
theorem cRep.fewer {b0 n : Nat} {pa sa : Nat → Nat} {σ : cS} {w : zW} (h : cRep b0 pa sa σ w) (hn : n ≤ σ.2.1) : cRep b0 pa sa (σ.1, (n, σ.2.2)) w := by
  obtain ⟨g1, g2, g3, g4, g5, g6, g7, g8, g9⟩ := h
  refine ⟨g1, g2, g3, g4, fun i hi => g5 i (Nat.lt_of_lt_of_le hi hn), g6, fun i j hi hj => g7 i j (Nat.lt_of_lt_of_le hi hn) (Nat.lt_of_lt_of_le hj hn), g8, fun c k j ok => ?_⟩
  refine g9 c k j ?_
  rcases ok with ⟨h1, h2, h3⟩ | ok
  · exact Or.inl ⟨h1, h2, Nat.lt_of_lt_of_le h3 hn⟩
  · exact Or.inr ok
