/-! THE CLAIM OUT OF ONE WALK OF THE LAW'S BODY. Your part is whole_start (and what it stands on); all else here is the same for every law, but numbers. -/
def R_law : String := "StepWalkLaw"
def lw_P (b : Addr) (xs : List Int32) (args : Array Value) (s : State) : Prop := args = #[.ref b] ∧ s.IntsAt b xs ∧ xs.length ≤ 5 ∧ (Jvm.Cond.and given_1 narrow_1).before args s = true
def lw_Q (_ : Array Value) (s : State) (o : Outcome) (t : State) : Prop := o = .returned (some (.int 1)) ∧ Framed s o t [] 600000 7302250
def lw_Z (below : List Frame) (a : Array Value) (s : State) : State → Prop := fun t => ∃ o, t.status = .running ∧ Ended t below o ∧ lw_Q a s o t
/-- the law's own end, with 1 on the stack, nothing written that was there before, its room as the claim has it -/
theorem lw_ret {p : Program} {l : Launch} {e : Env} {s : State} {m : MethodId} {below : List Frame} {meth : Method} {c : Code} {b : Nat} (hx : p.tables.exec = Jvm.exec) (hb : c.code = code) (hr : meth.sig.returnType = ret) (hlocks : meth.locks = false) {pc : Nat} {H : Heap} {ls : Array Slot} (hdg : decode code pc = .ok (.ireturn, 1)) : W p l e room_1 s m #[Value.ref b] below meth c H [] 600000 7302250 (lw_Z below #[Value.ref b] s) (F0 m pc ls [.int 1]) := by
  intro T hT X
  obtain ⟨fs, hret, hrun, hended, hW, hframe⟩ := X.leave (v := some (.int 1)) (hlocks := hlocks) (fun h => by rw [hr] at h; cases h)
  have hmeth' : T.vm.method? m = some meth := X.method'
  refine ⟨T.setFrames fs, ?_, .returned (some (.int 1)), hrun, hended, rfl, ⟨_, rfl⟩, hW, hframe⟩
  jvm_step X.here [X.here.top, hx, hb, hdg, hmeth', hr, ret, narrow_b1]
  (try refine ⟨rfl, ?_⟩); (try refine ⟨rfl, ?_⟩)
  first | (intro acts; rw [hret _ acts rfl rfl rfl]) | rw [hret _ _ rfl rfl rfl]
  exact Steps.refl _
/-- what holds at the law's entry: the machine, the code, the tables' words (any of lw_tbl by 'hts w (by decide +kernel)'), the script of L ints xs at the cell b, what the Statement gives of the start (any of its parts by flat_of_before) -/
def lw_At (p : Program) (s : State) (m : MethodId) (meth : Method) (c : Code) (b L : Nat) (xs : Nat → Int32) : Prop :=
  p.tables.exec = Jvm.exec ∧ c.code = code ∧ meth.sig.returnType = ret ∧ c.maxLocals = 4 ∧ s.vm.findClass R_law = some m.cls ∧ (∀ w ∈ lw_tbl, w.before #[Value.ref b] s = true) ∧ va_X b L xs s s.heap ∧ b < s.heap.size ∧ meth.locks = false ∧ (Jvm.Cond.and given_1 narrow_1).before #[Value.ref b] s = true
set_option maxRecDepth 100000 in
theorem zIn_ok : vwCl.all (fun r => decide (Cond.instantiable r.1 r.2.2 ∈ tables_1)) = true := by decide +kernel
/-- the classes and arrays at the law's entry -/
theorem z_classes {s : State} {args : Array Value} (hts : ∀ w ∈ lw_tbl, w.before args s = true) : ∃ (D : va_G) (dA : Nat → ClassId), va_K D vwCl (zTys dA) s := by
  have htz : ∀ w ∈ zTbl, w.before args s = true := fun w hw => hts w (List.mem_filter.mp hw).1
  have h1 : ∀ ci : Nat, ∃ q : ClassId × (Nat → Nat), ∀ r : vw_C, vwCl[ci]? = some r → u_Kn s r.1 r.2.1 r.2.2 q.1 q.2 := by
    intro ci
    cases hc : vwCl[ci]? with
    | none => exact ⟨(0, fun _ => 0), fun r h => by cases h⟩
    | some r =>
      have h2 := List.all_eq_true.mp zIn_ok r (List.mem_of_getElem? hc)
      have h3 := hts _ (List.mem_append_right _ (of_decide_eq_true h2))
      obtain ⟨cC, iS, hk⟩ := u_known htz (zCl_ok hc).1 h3
      exact ⟨(cC, iS), fun r' h => by cases h; exact hk⟩
  obtain ⟨f, hf⟩ := Classical.axiomOfChoice h1
  have num : ∀ ty : FieldType, (∀ C, ty ≠ .object C) → Cond.arrayClass ty ∈ zTbl → ∃ cA : ClassId, ArrOfT s cA ty ∧ va_RA s cA ty := by
    intro ty hne hw
    obtain ⟨cA, kA, comp, g1, g2, g3⟩ := Cond.arrayClass_spec (htz _ hw)
    refine ⟨cA, fun n z => ⟨fun k h => (by cases h), kA, g2, comp, g3⟩, ?_⟩
    cases ty with
    | object C => exact absurd rfl (hne C)
    | _ => exact g1
  have obj : ∀ C : String, Cond.arrayOver (.object C) ∈ zNst → ∃ cA : ClassId, ArrOfT s cA (.object C) ∧ va_RA s cA (.object C) := by
    intro C hw
    obtain ⟨comp, cA, kA, g1, g2, g3, g4, g5⟩ := Cond.arrayOver_spec (hts _ (List.mem_append_right _ (List.mem_filter.mp hw).1))
    exact ⟨cA, fun n z => ⟨fun k h => (by cases h), kA, g3, comp, g4⟩, kA, comp, g3, g4, g1, g5⟩
  have h2 : ∀ k : Nat, ∃ cA : ClassId, k < zNT → ArrOfT s cA (zAK k) ∧ va_RA s cA (zAK k) := by
    intro k
    match k with
    | 0 => obtain ⟨cA, h⟩ := num .int (fun C h => by cases h) (zNA_ok (t := .int) (k := 0) rfl).2.2.1; exact ⟨cA, fun _ => h⟩
    | 1 => obtain ⟨cA, h⟩ := num .long (fun C h => by cases h) (zNA_ok (t := .long) (k := 1) rfl).2.2.1; exact ⟨cA, fun _ => h⟩
    | 2 => obtain ⟨cA, h⟩ := num .boolean (fun C h => by cases h) (zNA_ok (t := .boolean) (k := 2) rfl).2.2.1; exact ⟨cA, fun _ => h⟩
    | 3 => obtain ⟨cA, h⟩ := obj "StepWalk$Part" (z_n (i := 26) (by decide +kernel) rfl); exact ⟨cA, fun _ => h⟩
    | 4 => obtain ⟨cA, h⟩ := obj "StepWalk$Spot" (z_n (i := 98) (by decide +kernel) rfl); exact ⟨cA, fun _ => h⟩
    | k + 5 => exact ⟨0, fun h => absurd h (by unfold zNT; omega)⟩
  obtain ⟨dA, hdA⟩ := Classical.axiomOfChoice h2
  refine ⟨(fun c => (f c).1, fun c => (f c).2), dA, fun c q hq => hf c q hq, fun k q hk => ?_⟩
  have hl : k < zNT := by
    have := (List.getElem?_eq_some_iff.mp hk).1
    simpa [zTys] using this
  rw [zTys_at dA hl] at hk
  cases hk
  exact hdA k hl
/-- what is owed, of the pure machine -/
def zClaim : Prop := ∀ (b L b0 : Nat) (xs : Nat → Int32), L ≤ 5 → b < b0 → zOk (b, L, xs) 1000 zLaw 0 [(0, .ref b)] [] ((b0, 0), (fun _ => none), fun _ _ => .null) (fun v w' => v = some (.int 1) ∧ w'.1.1 ≤ b0 + 600000 ∧ w'.1.2 ≤ 7302250)
set_option maxHeartbeats 4000000 in
theorem z_whole (hz : zClaim) {p : Program} {e : Env} {s : State} {m : MethodId} {below : List Frame} {meth : Method} {c : Code} (l : Launch) {b L : Nat} {xs : Nat → Int32} (hL : L ≤ 5) (C0 : lw_At p s m meth c b L xs) : W p l e room_1 s m #[Value.ref b] below meth c s.heap [] 0 0 (lw_Z below #[Value.ref b] s) (entryFrame m ([Value.ref b] : List Value).toArray 4) := by
  obtain ⟨hx, hb, hr, hml, hown, hts, hX, hbl, hlocks, hgv⟩ := C0
  have htz : ∀ w ∈ zTbl, w.before #[Value.ref b] s = true := fun w hw => hts w (List.mem_filter.mp hw).1
  have hns : ∀ w ∈ zNst, va_Nw w s := by
    intro w hw
    obtain ⟨hw1, hw2⟩ := List.mem_filter.mp hw
    have h := hts w (List.mem_append_right _ hw1)
    rcases zNs_cases hw2 with ⟨a, i, x, t, rfl⟩ | ⟨C, rfl⟩
    · exact va_Nw.of rfl h
    · exact va_AO.of h
  obtain ⟨D, dA, hK⟩ := z_classes hts
  obtain ⟨n, v, wf, hg, hv, hc, hs⟩ := hz b L s.heap.size xs hL hbl
  subst hv
  rw [lg_entry_eq]
  have hl := lv_entry [Value.ref b] (n := 4) (Nat.le_of_ble_eq_true rfl)
  have E : zEn D dA s.heap.size (b, L, xs) p s m #[Value.ref b] meth c zLaw := ⟨hx, hb, hml, hr, hlocks, hown, fun h => absurd h (by decide), htz, hns, hK, hX, hbl, Nat.le_refl _⟩
  have hw : zSt D dA s.heap.size ((s.heap.size, 0), (fun _ => none), fun _ _ => .null) s.heap := ⟨rfl, Nat.le_refl _, fun a q h => by cases h⟩
  have key := z_sim l D dA s.heap.size (b, L, xs) n hg (R := room_1) (below := below) (e := e) (n0 := s.heap.size) (k0 := 0) (Q := lw_Z below #[Value.ref b] s) E hw (va_S.rf (A := fun q => s.heap.size ≤ q)) hl (Nat.le_refl _) (Nat.le_refl _) (by decide) (by decide) (by show wf.1.1 - s.heap.size ≤ 600000; omega) (by show wf.1.2 - 0 ≤ 7302250; omega) ?_
  · rw [Nat.sub_self, Nat.sub_self] at key
    exact key
  · intro pc' ls' ins len st' H' locs' hd hz hst hS
    unfold zrt at hz
    split at hz
    · split at hz
      · split at hz
        · cases hz
          refine va_forget (fun q hq => hS.2.2 q hq) ?_
          refine W.widen (k := 600000) (n := 7302250) (by omega) (by omega) ?_
          exact lw_ret hx hb hr hlocks hd
        · cases hz
      · cases hz
    · split at hz
      · cases hz
      · cases hz
    · split at hz
      · cases hz
      · cases hz
      · cases hz
    · split at hz
      · cases hz
      · cases hz
      · cases hz
    · split at hz
      · cases hz
      · cases hz
    · cases hz
