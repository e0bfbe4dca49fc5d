/-! what the tables say: every entry has its word among the claim's -/
def zTbl : List Cond := lw_tbl.filter goodWord
def zNs : Cond → Bool
  | .methodLinkNest _ _ _ _ => true
  | .arrayOver (.object _) => true
  | _ => false
def zNst : List Cond := tables_1.filter zNs
theorem z_t {w : Cond} {i : Nat} (h : tables_1[i]? = some w) (hg : goodWord w = true) : w ∈ zTbl := List.mem_filter.mpr ⟨List.mem_append_right _ (List.mem_of_getElem? h), hg⟩
theorem z_l {w : Cond} {i : Nat} (h : lw_tbl[i]? = some w) (hg : goodWord w = true) : w ∈ zTbl := List.mem_filter.mpr ⟨List.mem_of_getElem? h, hg⟩
theorem z_n {w : Cond} {i : Nat} (h : tables_1[i]? = some w) (hg : zNs w = true) : w ∈ zNst := List.mem_filter.mpr ⟨List.mem_of_getElem? h, hg⟩
theorem zTbl_good (w : Cond) (h : w ∈ zTbl) : (w.onTables && w.keeps) = true ∨ ∃ ty, w = .arrayClass ty := good_of_word (List.mem_filter.mp h).2
theorem zNs_cases {w : Cond} (h : zNs w = true) : (∃ a i x t, w = .methodLinkNest a i x t) ∨ ∃ C, w = .arrayOver (.object C) := by
  unfold zNs at h
  split at h
  · exact Or.inl ⟨_, _, _, _, rfl⟩
  · exact Or.inr ⟨_, rfl⟩
  · cases h
theorem zNst_warm {s U : State} (hW : s.WarmedH U.vm) (h : ∀ w ∈ zNst, va_Nw w s) : ∀ w ∈ zNst, va_Nw w U := by
  intro w hw
  have h1 := h w hw
  rcases zNs_cases (List.mem_filter.mp hw).2 with ⟨a, i, x, t, rfl⟩ | ⟨C, rfl⟩
  · exact va_Nw.warmM hW h1
  · exact va_AO.moved hW.alike h1
theorem zNst_same {s U : State} (hv : s.vm = U.vm) (h : ∀ w ∈ zNst, va_Nw w s) : ∀ w ∈ zNst, va_Nw w U := by
  intro w hw
  have h1 := h w hw
  rcases zNs_cases (List.mem_filter.mp hw).2 with ⟨a, i, x, t, rfl⟩ | ⟨C, rfl⟩
  · exact va_Nw.same rfl hv h1
  · exact va_AO.moved (by rw [hv]; exact Vm.Alike.refl _) h1
/-- classes -/
def zClC (ci : Nat) : Bool := match vwCl[ci]? with
  | some r => (List.range r.2.2).all (fun k => decide (parseFieldDescriptor (r.2.1 k).2.2.1 = some (zFT ci k)) && decide ((r.2.1 k).2.2.2 = zFin ci k) && decide ((r.2.1 k).1 = r.1)) && decide (zN ci = r.2.2) && decide (zON ci = r.1) && decide (ci < 100) && (List.range r.2.2).all (fun a => (List.range r.2.2).all (fun b => decide (a = b) || decide ((r.2.1 a).2.1 ≠ (r.2.1 b).2.1)))
  | none => true
set_option maxRecDepth 100000 in
theorem zClC_ok : (List.range 8).all zClC = true := by decide +kernel
set_option maxRecDepth 100000 in
theorem zClW_ok : vwCl.all (fun r => (u_ws r.1 r.2.1 r.2.2).all fun w => decide (w ∈ tables_1) && goodWord w) = true := by decide +kernel
theorem zCl_lt8 {ci : Nat} {r : vw_C} (h : vwCl[ci]? = some r) : ci < 8 := (List.getElem?_eq_some_iff.mp h).1
theorem zCl_ok {ci : Nat} {C : String} {T : u_T} {N : Nat} (h : vwCl[ci]? = some (C, T, N)) : (∀ w ∈ u_ws C T N, w ∈ zTbl) ∧ (∀ k, k < N → parseFieldDescriptor (T k).2.2.1 = some (zFT ci k)) ∧ (∀ a, a < N → ∀ b, b < N → a ≠ b → (T a).2.1 ≠ (T b).2.1) ∧ (∀ k, k < N → (T k).2.2.2 = zFin ci k) ∧ (∀ k, k < N → (T k).1 = C) ∧ zN ci = N ∧ zON ci = C := by
  have h1 := List.all_eq_true.mp zClC_ok ci (List.mem_range.mpr (zCl_lt8 h))
  have h2 := List.all_eq_true.mp zClW_ok _ (List.mem_of_getElem? h)
  unfold zClC at h1
  rw [h] at h1
  simp only [Bool.and_eq_true, List.all_eq_true, List.mem_range, decide_eq_true_eq, Bool.or_eq_true] at h1
  obtain ⟨⟨⟨⟨h3, h4⟩, h5⟩, h6⟩, h7⟩ := h1
  refine ⟨fun w hw => ?_, fun k hk => (h3 k hk).1.1, fun a ha b hb hne => ?_, fun k hk => (h3 k hk).1.2, fun k hk => (h3 k hk).2, h4, h5⟩
  · have h8 := List.all_eq_true.mp h2 w hw
    simp only [Bool.and_eq_true, decide_eq_true_eq] at h8
    exact List.mem_filter.mpr ⟨List.mem_append_right _ h8.1, h8.2⟩
  · rcases h7 a ha b hb with h9 | h9
    · exact absurd h9 hne
    · exact h9
theorem zCl_lt {ci : Nat} {r : vw_C} (h : vwCl[ci]? = some r) : ci < 100 := Nat.lt_of_lt_of_le (zCl_lt8 h) (by decide)
theorem zON_ok {ci : Nat} {C : String} {T : u_T} {N : Nat} (h : vwCl[ci]? = some (C, T, N)) : zON ci = C := (zCl_ok h).2.2.2.2.2.2
/-- fields -/
def zFldC (q : Nat × Nat × Nat × Nat × Nat) : Bool := match vwCl[q.2.2.1]? with
  | some r => decide (q.2.2.2.1 < r.2.2) && decide (tables_1[q.2.2.2.2]? = some (Cond.fieldLink (zON q.1) q.2.1 r.1 (r.2.1 q.2.2.2.1).2.1 (r.2.1 q.2.2.2.1).2.2.1))
  | none => false
set_option maxRecDepth 100000 in
theorem zFldC_ok : zFldL.all zFldC = true := by decide +kernel
theorem z_find {α β : Type} {l : List α} {f : α → Bool} {g : α → β} {y : β} (h : (l.find? f).map g = some y) : ∃ q ∈ l, f q = true ∧ g q = y := by
  cases hf : l.find? f with
  | none => rw [hf] at h; cases h
  | some q =>
    rw [hf] at h
    exact ⟨q, List.mem_of_find?_eq_some hf, List.find?_some hf, Option.some.inj h⟩
theorem zFld_ok {oc idx ci k : Nat} (h : zFld oc idx = some (ci, k)) : ∃ (C : String) (T : u_T) (N : Nat), vwCl[ci]? = some (C, T, N) ∧ ci < 100 ∧ k < N ∧ (T k).1 = C ∧ (Cond.fieldLink (zON oc) idx C (T k).2.1 (T k).2.2.1 ∈ zTbl ∨ ∃ host, Cond.fieldLinkNest (zON oc) idx C (T k).2.1 (T k).2.2.1 host ∈ zNst) := by
  obtain ⟨q, hq, hk, he⟩ := z_find h
  obtain ⟨q1, q2, q3, q4, q5⟩ := q
  cases he
  simp only [Bool.and_eq_true, beq_iff_eq] at hk
  obtain ⟨rfl, rfl⟩ := hk
  have h1 := List.all_eq_true.mp zFldC_ok _ hq
  unfold zFldC at h1
  dsimp only at h1
  split at h1
  · rename_i r hr
    obtain ⟨C, T, N⟩ := r
    simp only [Bool.and_eq_true, decide_eq_true_eq] at h1
    exact ⟨C, T, N, hr, zCl_lt hr, h1.1, (zCl_ok hr).2.2.2.2.1 _ h1.1, Or.inl (z_t h1.2 rfl)⟩
  · cases h1
/-- new objects -/
def zNewC (q : Nat × Nat × Nat × Nat × Nat × Nat) : Bool := match vwCl[q.2.2.1]? with
  | some r => decide (tables_1[q.2.2.2.1]? = some (Cond.classLink (zON q.1) q.2.1 r.1)) && decide (tables_1[q.2.2.2.2.1]? = some (Cond.instantiable r.1 r.2.2)) && decide (tables_1[q.2.2.2.2.2]? = some (Cond.initialized r.1))
  | none => false
set_option maxRecDepth 100000 in
theorem zNewC_ok : zNewL.all zNewC = true := by decide +kernel
theorem zNew_ok {oc idx ci : Nat} (h : zNew oc idx = some ci) : ∃ (C : String) (T : u_T), vwCl[ci]? = some (C, T, zN ci) ∧ ci < 100 ∧ Cond.classLink (zON oc) idx C ∈ zTbl ∧ Cond.instantiable C (zN ci) ∈ zTbl ∧ Cond.initialized C ∈ zTbl := by
  obtain ⟨q, hq, hk, he⟩ := z_find h
  obtain ⟨q1, q2, q3, q4, q5, q6⟩ := q
  cases he
  simp only [Bool.and_eq_true, beq_iff_eq] at hk
  obtain ⟨rfl, rfl⟩ := hk
  have h1 := List.all_eq_true.mp zNewC_ok _ hq
  unfold zNewC at h1
  dsimp only at h1
  split at h1
  · rename_i r hr
    obtain ⟨C, T, N⟩ := r
    have hN : zN q3 = N := (zCl_ok hr).2.2.2.2.2.1
    subst hN
    simp only [Bool.and_eq_true, decide_eq_true_eq] at h1
    exact ⟨C, T, hr, zCl_lt hr, z_t h1.1.1 rfl, z_t h1.1.2 rfl, z_t h1.2 rfl⟩
  · cases h1
/-- arrays -/
theorem zNA_ok {t : Jvm.ClassFile.ArrayType} {k : Nat} (h : zNA t = some k) : k < zNT ∧ newarray.typeOf t = zAK k ∧ Cond.arrayClass (newarray.typeOf t) ∈ zTbl ∧ componentBytes (newarray.typeOf t) ≤ 8 ∧ True := by
  cases t with
  | int => cases h; exact ⟨by decide, rfl, z_t (i := 96) (by decide +kernel) rfl, by decide, trivial⟩
  | long => cases h; exact ⟨by decide, rfl, z_t (i := 69) (by decide +kernel) rfl, by decide, trivial⟩
  | boolean => cases h; exact ⟨by decide, rfl, z_t (i := 70) (by decide +kernel) rfl, by decide, trivial⟩
  | _ => cases h
theorem zAc_ok {k cj : Nat} (h : zAc k = some cj) : ∃ r0 : vw_C, vwCl[cj]? = some r0 ∧ zAK k = .object r0.1 := by
  unfold zAc at h
  split at h
  · cases h; exact ⟨_, rfl, rfl⟩
  · cases h; exact ⟨_, rfl, rfl⟩
  · cases h
theorem zAc_lt {k cj : Nat} (h : zAc k = some cj) : cj < 100 := by
  obtain ⟨r0, h1, -⟩ := zAc_ok h
  exact zCl_lt h1
def zANC (q : Nat × Nat × Nat × Nat × Nat) : Bool := decide (q.2.2.1 < zNT) && (match zAK q.2.2.1 with
  | .object C => decide (tables_1[q.2.2.2.1]? = some (Cond.classLink (zON q.1) q.2.1 C)) && decide (tables_1[q.2.2.2.2]? = some (Cond.arrayOver (.object C)))
  | _ => false)
set_option maxRecDepth 100000 in
theorem zANC_ok : zANL.all zANC = true := by decide +kernel
theorem zAN_ok {oc idx k : Nat} (h : zAN oc idx = some k) : ∃ C : String, k < zNT ∧ zAK k = .object C ∧ Cond.classLink (zON oc) idx C ∈ zTbl ∧ Cond.arrayOver (.object C) ∈ zNst := by
  obtain ⟨q, hq, hk, he⟩ := z_find h
  obtain ⟨q1, q2, q3, q4, q5⟩ := q
  cases he
  simp only [Bool.and_eq_true, beq_iff_eq] at hk
  obtain ⟨rfl, rfl⟩ := hk
  have h1 := List.all_eq_true.mp zANC_ok _ hq
  unfold zANC at h1
  simp only [Bool.and_eq_true, decide_eq_true_eq] at h1
  obtain ⟨h0, h1⟩ := h1
  split at h1
  · rename_i C hC
    simp only [Bool.and_eq_true, decide_eq_true_eq] at h1
    exact ⟨C, h0, hC, z_t h1.1 rfl, z_n h1.2 rfl⟩
  · cases h1
/-- constants -/
theorem zLd_ok {oc idx : Nat} {v : Int32} (h : zLd oc idx = some v) : Cond.constant (zON oc) idx v ∈ zTbl := by cases h
def zLd2C (q : Nat × Nat × Int64 × Nat) : Bool := decide (tables_1[q.2.2.2]? = some (Cond.constantLong (zON q.1) q.2.1 q.2.2.1))
set_option maxRecDepth 100000 in
theorem zLd2C_ok : zLd2L.all zLd2C = true := by decide +kernel
theorem zLd2_ok {oc idx : Nat} {v : Int64} (h : zLd2 oc idx = some v) : Cond.constantLong (zON oc) idx v ∈ zTbl := by
  obtain ⟨q, hq, hk, he⟩ := z_find h
  obtain ⟨q1, q2, q3, q4⟩ := q
  cases he
  simp only [Bool.and_eq_true, beq_iff_eq] at hk
  obtain ⟨rfl, rfl⟩ := hk
  have h1 := List.all_eq_true.mp zLd2C_ok _ hq
  unfold zLd2C at h1
  exact z_t (of_decide_eq_true h1) rfl
