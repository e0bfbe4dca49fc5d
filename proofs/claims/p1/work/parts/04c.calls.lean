/-- methods -/
def zMk (mj : Nat) : Prop := Cond.code (zY mj) (zCode mj) (zML mj) (zRT mj) ∈ zTbl ∧ plainFor (zY mj) = true ∧ (zY mj).cls ≠ "java/lang/invoke/MethodHandle" ∧ (zY mj).cls ≠ "java/lang/invoke/VarHandle" ∧ Cond.initialized (zY mj).cls ∈ zTbl ∧ zON (zOC mj) = (zY mj).cls ∧ zML mj + 19 ≤ zKK
def zMkC (mj : Nat) : Bool := match zMkL[mj]? with
  | some q => plainFor (zY mj) && decide ((zY mj).cls ≠ "java/lang/invoke/MethodHandle") && decide ((zY mj).cls ≠ "java/lang/invoke/VarHandle") && decide (tables_1[q.2.1]? = some (Cond.initialized (zY mj).cls)) && decide (zON (zOC mj) = (zY mj).cls) && decide (zML mj + 19 ≤ zKK)
  | none => false
set_option maxRecDepth 100000 in
theorem zMkC_ok : ((List.range zLaw).drop 1).all zMkC = true := by decide +kernel
theorem zMk_ok {mj : Nat} (h0 : 0 < mj) (h1 : mj < zLaw) : zMk mj := by
  have hm : mj ∈ (List.range zLaw).drop 1 := by
    refine List.mem_of_getElem? (i := mj - 1) ?_
    rw [List.getElem?_drop, List.getElem?_range (by omega)]
    congr 1
    omega
  have h2 := List.all_eq_true.mp zMkC_ok mj hm
  unfold zMkC at h2
  split at h2
  · simp only [Bool.and_eq_true, decide_eq_true_eq] at h2
    obtain ⟨⟨⟨⟨⟨g2, g3⟩, g4⟩, g5⟩, g6⟩, g7⟩ := h2
    exact ⟨zc_all mj h0 h1, g2, g3, g4, z_t g5 rfl, g6, g7⟩
  · cases h2
/-- calls -/
def zMtC (q : Nat × Nat × Nat × Nat × Nat × Nat × Nat) : Bool :=
  match q.2.2.2.2.1, zMkL[q.2.2.1]? with
  | 3, some r => decide (tables_1[q.2.2.2.2.2.1]? = some (Cond.methodLink (zON q.1) q.2.1 Lib.objectInit)) && decide (tables_1[(zMkL.getD 0 (0, 0, 0, 0)).2.2.1]? = some (Cond.instanceMethod Lib.objectInit)) && decide (tables_1[(zMkL.getD 0 (0, 0, 0, 0)).1]? = some (Cond.code Lib.objectInit ⟨#[0xb1]⟩ 1 none))
  | how, some r => decide (0 < q.2.2.1) && decide (q.2.2.1 < zLaw) && decide ((parseMethodDescriptor (zY q.2.2.1).desc).map (fun d => d.parameters.length) = some q.2.2.2.1) && (match q.2.2.2.2.2.2 with
      | 0 => decide (tables_1[q.2.2.2.2.2.1]? = some (Cond.methodLink (zON q.1) q.2.1 (zY q.2.2.1)))
      | _ => decide (tables_1[q.2.2.2.2.2.1]? = some (Cond.methodLinkNest (zON q.1) q.2.1 (zY q.2.2.1) "StepWalk"))) && (match how with
      | 0 => decide (tables_1[r.2.2.1]? = some (Cond.instanceMethod (zY q.2.2.1))) && decide (lw_tbl[r.2.2.2]? = some (Cond.selects (zY q.2.2.1).cls (zY q.2.2.1) (zY q.2.2.1))) && (match vwCl[zOC q.2.2.1]? with | some c => decide (c.1 = (zY q.2.2.1).cls) | none => false)
      | 1 => decide (tables_1[r.2.2.1]? = some (Cond.instanceMethod (zY q.2.2.1))) && decide ((zY q.2.2.1).name = "<init>") && decide (zRT q.2.2.1 = none)
      | 2 => decide (tables_1[r.2.2.1]? = some (Cond.static (zY q.2.2.1)))
      | _ => false)
  | _, none => false
set_option maxRecDepth 100000 in
theorem zMtC_ok : zMtL.all zMtC = true := by decide +kernel
def zLk (oc idx mj : Nat) : Prop := Cond.methodLink (zON oc) idx (zY mj) ∈ zTbl ∨ ∃ host, Cond.methodLinkNest (zON oc) idx (zY mj) host ∈ zNst
theorem zMt_ok {oc idx mj n how : Nat} (h : zMt oc idx = some (mj, n, how)) :
    (how = 3 → Cond.methodLink (zON oc) idx Lib.objectInit ∈ zTbl ∧ Cond.instanceMethod Lib.objectInit ∈ zTbl ∧ Cond.code Lib.objectInit ⟨#[0xb1]⟩ 1 none ∈ zTbl) ∧
    (how < 3 → zMk mj ∧ (parseMethodDescriptor (zY mj).desc).map (fun d => d.parameters.length) = some n ∧ zLk oc idx mj ∧
      ((how = 0 ∧ Cond.instanceMethod (zY mj) ∈ zTbl ∧ Cond.selects (zY mj).cls (zY mj) (zY mj) ∈ zTbl ∧ ∃ r0, zRC mj = some (zOC mj) ∧ vwCl[zOC mj]? = some r0 ∧ r0.1 = (zY mj).cls) ∨
       (how = 1 ∧ Cond.instanceMethod (zY mj) ∈ zTbl ∧ (zY mj).name = "<init>" ∧ zRT mj = none) ∨
       (how = 2 ∧ Cond.static (zY mj) ∈ zTbl))) := by
  obtain ⟨q, hq, hk, he⟩ := z_find h
  obtain ⟨q1, q2, q3, q4, q5, q6, q7⟩ := q
  cases he
  simp only [Bool.and_eq_true, beq_iff_eq] at hk
  obtain ⟨rfl, rfl⟩ := hk
  have h1 := List.all_eq_true.mp zMtC_ok _ hq
  unfold zMtC at h1
  dsimp only at h1
  split at h1
  · simp only [Bool.and_eq_true, decide_eq_true_eq] at h1
    exact ⟨fun _ => ⟨z_t h1.1.1 rfl, z_t h1.1.2 rfl, z_t h1.2 rfl⟩, fun hh => absurd (show 3 < 3 from hh) (by decide)⟩
  · rename_i r hr
    simp only [Bool.and_eq_true, decide_eq_true_eq] at h1
    obtain ⟨⟨⟨⟨g1, g2⟩, g3⟩, g4⟩, g5⟩ := h1
    refine ⟨fun hh => ?_, fun _ => ⟨zMk_ok g1 g2, g3, ?_, ?_⟩⟩
    · subst hh; simp at g5
    · split at g4
      · exact Or.inl (z_t (of_decide_eq_true g4) rfl)
      · exact Or.inr ⟨_, z_n (of_decide_eq_true g4) rfl⟩
    · split at g5
      · simp only [Bool.and_eq_true, decide_eq_true_eq] at g5
        obtain ⟨⟨k1, k2⟩, k3⟩ := g5
        split at k3
        · rename_i c hc
          exact Or.inl ⟨rfl, z_t k1 rfl, z_l k2 rfl, c, by unfold zRC; rw [if_pos (zCl_lt8 hc)], hc, of_decide_eq_true k3⟩
        · cases k3
      · simp only [Bool.and_eq_true, decide_eq_true_eq] at g5
        exact Or.inr (Or.inl ⟨rfl, z_t g5.1.1 rfl, g5.1.2, g5.2⟩)
      · exact Or.inr (Or.inr ⟨rfl, z_t (of_decide_eq_true g5) rfl⟩)
      · cases g5
  · cases h1
