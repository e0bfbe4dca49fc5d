/-! switches; locals that are forgotten -/
section ZSW
variable {S : zS} {d mi pc len : Nat} {L : List (Nat × Value)} {r : List Value} {w : zW} {Post : Option Value → zW → Prop}
theorem zi_sd {dflt lo hi : Int} {offs : Array Int} {x : Int32} {tgt : Nat} (hd : zI mi pc = some (.tableswitch dflt lo hi offs, len)) (h : x.toInt < lo ∨ hi < x.toInt) (ht : (pc : Int) + dflt = (tgt : Int)) (k : zOk S d mi tgt L r w Post) : zOk S d mi pc L (.int x :: r) w Post :=
  zk_goto (off := dflt) (r := r) (zI_ok hd) rfl (by simp only [zbr]; rw [if_pos h]) ht k
theorem zi_si {dflt lo hi : Int} {offs : Array Int} {x : Int32} {off : Int} {tgt : Nat} (hd : zI mi pc = some (.tableswitch dflt lo hi offs, len)) (h : ¬ (x.toInt < lo ∨ hi < x.toInt)) (ho : offs[(x.toInt - lo).toNat]? = some off) (ht : (pc : Int) + off = (tgt : Int)) (k : zOk S d mi tgt L r w Post) : zOk S d mi pc L (.int x :: r) w Post :=
  zk_goto (off := off) (r := r) (zI_ok hd) rfl (by simp only [zbr]; rw [if_neg h, ho]) ht k
end ZSW
/-- no local stands twice -/
def zuq : List (Nat × Value) → Bool
  | [] => true
  | q :: t => t.all (fun r => !(r.1 == q.1)) && zuq t
theorem zlk_of {i : Nat} {v : Value} : ∀ {L : List (Nat × Value)}, zuq L = true → (i, v) ∈ L → zlk i L = some v := by
  intro L
  induction L with
  | nil => intro _ h; cases h
  | cons q t ih =>
    intro hu h
    simp only [zuq, Bool.and_eq_true, List.all_eq_true, Bool.not_eq_true', beq_eq_false_iff_ne] at hu
    unfold zlk
    rcases List.mem_cons.mp h with rfl | h
    · rw [if_pos rfl]
    · rw [if_neg (fun e => hu.1 _ h e.symm)]
      exact ih hu.2 h
theorem zins_of {i : Nat} {v : Value} {x : Nat × Value} : ∀ {L : List (Nat × Value)}, x = (i, v) ∨ x ∈ L → x ∈ zins i v L := by
  intro L
  induction L with
  | nil => intro h; rcases h with rfl | h; exact List.mem_cons_self; cases h
  | cons q t ih =>
    intro h
    unfold zins
    cases hb : Nat.ble i q.1 with
    | true => exact List.mem_cons.mpr h
    | false =>
      rcases h with h | h
      · exact List.mem_cons_of_mem _ (ih (Or.inl h))
      · rcases List.mem_cons.mp h with h | h
        · exact List.mem_cons.mpr (Or.inl h)
        · exact List.mem_cons_of_mem _ (ih (Or.inr h))
theorem zuq_ins {i : Nat} {v : Value} : ∀ {L : List (Nat × Value)}, zuq L = true → (∀ q ∈ L, q.1 ≠ i) → zuq (zins i v L) = true := by
  intro L
  induction L with
  | nil => intro _ _; rfl
  | cons q t ih =>
    intro hu hn
    have hu' := hu
    simp only [zuq, Bool.and_eq_true, List.all_eq_true, Bool.not_eq_true', beq_eq_false_iff_ne] at hu'
    unfold zins
    cases hb : Nat.ble i q.1 with
    | true =>
      show zuq ((i, v) :: q :: t) = true
      rw [zuq]
      simp only [Bool.and_eq_true, List.all_eq_true, Bool.not_eq_true', beq_eq_false_iff_ne]
      exact ⟨fun x hx => hn x hx, hu⟩
    | false =>
      show zuq (q :: zins i v t) = true
      rw [zuq]
      simp only [Bool.and_eq_true, List.all_eq_true, Bool.not_eq_true', beq_eq_false_iff_ne]
      refine ⟨fun x hx => ?_, ih hu'.2 (fun x hx => hn x (List.mem_cons_of_mem _ hx))⟩
      rcases List.mem_cons.mp (zins_mem hx) with rfl | hx
      · exact fun e => hn q List.mem_cons_self e.symm
      · exact hu'.1 x hx
theorem zuq_filter {p : Nat × Value → Bool} : ∀ {L : List (Nat × Value)}, zuq L = true → zuq (L.filter p) = true := by
  intro L
  induction L with
  | nil => exact fun h => h
  | cons q t ih =>
    intro hu
    simp only [zuq, Bool.and_eq_true, List.all_eq_true, Bool.not_eq_true', beq_eq_false_iff_ne] at hu
    rw [List.filter_cons]
    split
    · rw [zuq]
      simp only [Bool.and_eq_true, List.all_eq_true, Bool.not_eq_true', beq_eq_false_iff_ne]
      exact ⟨fun x hx => hu.1 x (List.mem_filter.mp hx).1, ih hu.2⟩
    · exact ih hu.2
theorem zs1_uq {i : Nat} {v : Value} {L : List (Nat × Value)} (h : zuq L = true) : zuq (zs1 i v L) = true := by
  refine zuq_ins (zuq_filter h) (fun q hq => ?_)
  have := (List.mem_filter.mp hq).2
  simp only [Bool.and_eq_true, Bool.not_eq_true', beq_eq_false_iff_ne] at this
  exact this.1
theorem zs2_uq {i : Nat} {v : Value} {L : List (Nat × Value)} (h : zuq L = true) : zuq (zs2 i v L) = true := by
  refine zuq_ins (zuq_filter h) (fun q hq => ?_)
  have := (List.mem_filter.mp hq).2
  simp only [Bool.and_eq_true, Bool.not_eq_true', beq_eq_false_iff_ne] at this
  exact this.1
theorem zs1_in {i : Nat} {v : Value} {L L' : List (Nat × Value)} (h : ∀ q ∈ L, q ∈ L') : ∀ q ∈ zs1 i v L, q ∈ zs1 i v L' := by
  intro q hq
  rcases List.mem_cons.mp (zins_mem hq) with rfl | hq
  · exact zins_of (Or.inl rfl)
  · exact zins_of (Or.inr (List.mem_filter.mpr ⟨h q (List.mem_filter.mp hq).1, (List.mem_filter.mp hq).2⟩))
theorem zs2_in {i : Nat} {v : Value} {L L' : List (Nat × Value)} (h : ∀ q ∈ L, q ∈ L') : ∀ q ∈ zs2 i v L, q ∈ zs2 i v L' := by
  intro q hq
  rcases List.mem_cons.mp (zins_mem hq) with rfl | hq
  · exact zins_of (Or.inl rfl)
  · exact zins_of (Or.inr (List.mem_filter.mpr ⟨h q (List.mem_filter.mp hq).1, (List.mem_filter.mp hq).2⟩))
set_option maxHeartbeats 4000000 in
theorem zloc_ext {nL len : Nat} {ins : Jvm.ClassFile.Instr} {L L' L1 : List (Nat × Value)} {st st1 : List Value} (h : zloc nL ins len L st = some (L1, st1)) (hs : ∀ q ∈ L, q ∈ L') (hu : zuq L' = true) : ∃ L1', zloc nL ins len L' st = some (L1', st1) ∧ (∀ q ∈ L1, q ∈ L1') ∧ zuq L1' = true := by
  have up : ∀ {i : Nat} {v : Value}, zlk i L = some v → zlk i L' = some v := fun h => zlk_of hu (hs _ (zlk_mem h))
  unfold zloc at h
  split at h
  · split at h
    · rename_i hz; cases h; exact ⟨L', by simp only [zloc, up hz], hs, hu⟩
    · cases h
  · split at h
    · rename_i hz; cases h; exact ⟨L', by simp only [zloc, up hz], hs, hu⟩
    · cases h
  · split at h
    · rename_i hz; cases h; exact ⟨L', by simp only [zloc, up hz], hs, hu⟩
    · cases h
  · split at h
    · rename_i hz; cases h; exact ⟨L', by simp only [zloc, up hz], hs, hu⟩
    · cases h
  · split at h
    · rename_i hz; cases h; exact ⟨L', by simp only [zloc, up hz], hs, hu⟩
    · rename_i hz; cases h; exact ⟨L', by simp only [zloc, up hz], hs, hu⟩
    · cases h
  · split at h
    · rename_i hz; cases h; exact ⟨L', by simp only [zloc, up hz], hs, hu⟩
    · rename_i hz; cases h; exact ⟨L', by simp only [zloc, up hz], hs, hu⟩
    · cases h
  · split at h
    · rename_i hn; cases h; exact ⟨_, by simp only [zloc]; rw [if_pos hn], zs1_in hs, zs1_uq hu⟩
    · cases h
  · split at h
    · rename_i hn; cases h; exact ⟨_, by simp only [zloc]; rw [if_pos hn], zs1_in hs, zs1_uq hu⟩
    · cases h
  · split at h
    · rename_i hn; cases h; exact ⟨_, by simp only [zloc]; rw [if_pos hn], zs2_in hs, zs2_uq hu⟩
    · cases h
  · split at h
    · rename_i hn; cases h; exact ⟨_, by simp only [zloc]; rw [if_pos hn], zs2_in hs, zs2_uq hu⟩
    · cases h
  · split at h
    · rename_i hn; cases h; exact ⟨_, by simp only [zloc]; rw [if_pos hn], zs1_in hs, zs1_uq hu⟩
    · cases h
  · split at h
    · rename_i hn; cases h; exact ⟨_, by simp only [zloc]; rw [if_pos hn], zs1_in hs, zs1_uq hu⟩
    · cases h
  · split at h
    · rename_i hn; cases h; exact ⟨_, by simp only [zloc]; rw [if_pos hn], zs1_in hs, zs1_uq hu⟩
    · cases h
  · split at h
    · rename_i hn; cases h; exact ⟨_, by simp only [zloc]; rw [if_pos hn], zs1_in hs, zs1_uq hu⟩
    · cases h
  · split at h
    · rename_i hz
      split at h
      · rename_i hn; cases h; exact ⟨_, by simp only [zloc, up hz]; rw [if_pos hn], zs1_in hs, zs1_uq hu⟩
      · cases h
    · cases h
  · cases h
theorem zgo_ext {S : zS} : ∀ (n : Nat) {d mi pc : Nat} {L L' : List (Nat × Value)} {st : List Value} {w : zW} {r : Option Value × zW}, zgo S n d mi pc L st w = some r → (∀ q ∈ L, q ∈ L') → zuq L' = true → zgo S n d mi pc L' st w = some r := by
  intro n
  induction n with
  | zero => intro d mi pc L L' st w r h; simp [zgo] at h
  | succ n ih =>
    intro d mi pc L L' st w r h hs hu
    rw [zgo] at h ⊢
    cases hd : decode (zCode mi) pc with
    | error x => rw [hd] at h; simp at h
    | ok q =>
      obtain ⟨ins, len⟩ := q
      rw [hd] at h
      dsimp only at h ⊢
      cases hz : zst S mi ins len pc L st w with
      | none => rw [hz] at h; simp at h
      | some q =>
        rw [hz] at h
        have hz0 := hz
        unfold zst at hz
        split at hz
        · rename_i hg
          obtain ⟨q1, h9, hq⟩ := Option.map_eq_some_iff.mp hz; subst hq
          have e : zst S mi ins len pc L' st w = some (.inl (pc + len, L', q1, w)) := by simp only [zst, hg, h9, Option.map_some]
          rw [e]
          exact ih h hs hu
        · rename_i hg
          obtain ⟨⟨L1, st1⟩, h9, hq⟩ := Option.map_eq_some_iff.mp hz; subst hq
          obtain ⟨L1', g1, g2, g3⟩ := zloc_ext h9 hs hu
          have e : zst S mi ins len pc L' st w = some (.inl (pc + len, L1', st1, w)) := by simp only [zst, hg, g1, Option.map_some]
          rw [e]
          exact ih h g2 g3
        · rename_i hg
          obtain ⟨⟨pc1, st1⟩, h9, hq⟩ := Option.map_eq_some_iff.mp hz; subst hq
          have e : zst S mi ins len pc L' st w = some (.inl (pc1, L', st1, w)) := by simp only [zst, hg, h9, Option.map_some]
          rw [e]
          exact ih h hs hu
        · rename_i hg
          obtain ⟨⟨st1, w1⟩, h9, hq⟩ := Option.map_eq_some_iff.mp hz; subst hq
          have e : zst S mi ins len pc L' st w = some (.inl (pc + len, L', st1, w1)) := by simp only [zst, hg, h9, Option.map_some]
          rw [e]
          exact ih h hs hu
        · rename_i hg
          obtain ⟨⟨mj, as, rest⟩, h9, hq⟩ := Option.map_eq_some_iff.mp hz; subst hq
          have e : zst S mi ins len pc L' st w = some (.inr (.inl (mj, as, rest))) := by simp only [zst, hg, h9, Option.map_some]
          rw [e]
          dsimp only at h ⊢
          cases d with
          | zero => simp at h
          | succ d =>
            dsimp only at h ⊢
            cases hc : zgo S n d mj 0 (lv_args 0 as) [] w with
            | none => rw [hc] at h; simp at h
            | some q =>
              obtain ⟨v, w'⟩ := q
              rw [hc] at h
              exact ih h hs hu
        · rename_i hg
          obtain ⟨v, h9, hq⟩ := Option.map_eq_some_iff.mp hz; subst hq
          have e : zst S mi ins len pc L' st w = some (.inr (.inr v)) := by simp only [zst, hg, h9, Option.map_some]
          rw [e]
          exact h
        · cases hz
theorem zk_sub {S : zS} {d mi pc : Nat} {L L' : List (Nat × Value)} {st : List Value} {w : zW} {Post : Option Value → zW → Prop} (ks : List Nat) (hl : lv_pick L' ks = L) (hu : zuq L' = true) (k : zOk S d mi pc L st w Post) : zOk S d mi pc L' st w Post := by
  obtain ⟨n, v, wf, h1, h2⟩ := k
  refine ⟨n, v, wf, zgo_ext n h1 (fun q hq => ?_) hu, h2⟩
  rw [← hl] at hq
  obtain ⟨k, -, hk⟩ := List.mem_filterMap.mp hq
  exact List.mem_of_getElem? hk
theorem z_nb {x : Int32} (h : x = 0 ∨ x = 1) : narrow .boolean (.int x) = .int x := by rcases h with rfl | rfl <;> rfl
theorem z_fb {x : Int32} (h : x = 0 ∨ x = 1) : fits .boolean (.int x) = true := by rcases h with rfl | rfl <;> rfl
