/-! the pure machine's runs are the machine's -/
theorem zhp_grow {S : zS} {mi len : Nat} {ins : Jvm.ClassFile.Instr} {st st' : List Value} {w w' : zW} (h : zhp S mi ins len st w = some (st', w')) : w.1.1 ≤ w'.1.1 ∧ w.1.2 ≤ w'.1.2 := by
  unfold zhp at h
  (repeat' split at h) <;> first
    | (cases h; exact ⟨Nat.le_refl _, Nat.le_refl _⟩)
    | (cases h; exact ⟨Nat.le_succ _, Nat.le_add_right _ _⟩)
    | cases h
theorem zgo_grow {S : zS} : ∀ (n : Nat) {d mi pc : Nat} {L : List (Nat × Value)} {st : List Value} {w wf : zW} {r : Option Value}, zgo S n d mi pc L st w = some (r, wf) → w.1.1 ≤ wf.1.1 ∧ w.1.2 ≤ wf.1.2 := by
  intro n
  induction n with
  | zero => intro d mi pc L st w wf r h; simp [zgo] at h
  | succ n ih =>
    intro d mi pc L st w wf r h
    rw [zgo] at h
    cases hd : decode (zCode mi) pc with
    | error x => rw [hd] at h; simp at h
    | ok q =>
      obtain ⟨ins, len⟩ := q
      rw [hd] at h
      dsimp only at h
      cases hz : zst S mi ins len pc L st w with
      | none => rw [hz] at h; simp at h
      | some q =>
        rw [hz] at h
        obtain ⟨pc', L', st', w'⟩ | ⟨mj, as, rest⟩ | v := q
        · have h1 := ih h
          have h2 : w.1.1 ≤ w'.1.1 ∧ w.1.2 ≤ w'.1.2 := by
            unfold zst at hz
            split at hz
            · obtain ⟨q, -, hq⟩ := Option.map_eq_some_iff.mp hz; cases hq; exact ⟨Nat.le_refl _, Nat.le_refl _⟩
            · obtain ⟨q, -, hq⟩ := Option.map_eq_some_iff.mp hz; cases hq; exact ⟨Nat.le_refl _, Nat.le_refl _⟩
            · obtain ⟨q, -, hq⟩ := Option.map_eq_some_iff.mp hz; cases hq; exact ⟨Nat.le_refl _, Nat.le_refl _⟩
            · obtain ⟨q, h9, hq⟩ := Option.map_eq_some_iff.mp hz; cases hq; exact zhp_grow h9
            · obtain ⟨q, -, hq⟩ := Option.map_eq_some_iff.mp hz; cases hq
            · obtain ⟨q, -, hq⟩ := Option.map_eq_some_iff.mp hz; cases hq
            · cases hz
          exact ⟨Nat.le_trans h2.1 h1.1, Nat.le_trans h2.2 h1.2⟩
        · dsimp only at h
          cases d with
          | zero => simp at h
          | succ d =>
            dsimp only at h
            cases hc : zgo S n d mj 0 (lv_args 0 as) [] w with
            | none => rw [hc] at h; simp at h
            | some q =>
              obtain ⟨v, w'⟩ := q
              rw [hc] at h
              have h1 := ih hc
              have h2 := ih h
              exact ⟨Nat.le_trans h1.1 h2.1, Nat.le_trans h1.2 h2.2⟩
        · cases h; exact ⟨Nat.le_refl _, Nat.le_refl _⟩
def zRm (d : Nat) (w wf : zW) : Room := { frames := d, cells := wf.1.1 - w.1.1, slots := wf.1.2 - w.1.2, locals := d * zKK }
/-- a method's words: its code, and all of ours -/
def zws (mj : Nat) : List Cond := Cond.code (zY mj) (zCode mj) (zML mj) (zRT mj) :: zTbl
/-- the simulation of runs of at most n steps -/
def zSim (l : Launch) (D : va_G) (dA : Nat → ClassId) (b0 : Nat) (S : zS) (n : Nat) : Prop :=
  ∀ {d mi pc : Nat} {L : List (Nat × Value)} {st : List Value} {w wf : zW} {r : Option Value}, zgo S n d mi pc L st w = some (r, wf) →
  ∀ {p : Program} {e : Env} {R : Room} {s : State} {m : MethodId} {args : Array Value} {below : List Frame} {meth : Method} {c : Code} {H : Heap} {locs : List Loc} {n0 k0 : Nat} {Q : State → Prop} {ls : Array Slot},
  zEn D dA b0 S p s m args meth c mi → zSt D dA b0 w H → va_S (fun q => b0 ≤ q) s.heap H locs → lv_has ls (zML mi) L → n0 ≤ w.1.1 → k0 ≤ w.1.2 → d ≤ R.frames → d * zKK ≤ R.locals → wf.1.1 - n0 ≤ R.cells → wf.1.2 - k0 ≤ R.slots →
  (∀ (pc' : Nat) (ls' : Array Slot) (ins : Jvm.ClassFile.Instr) (len : Nat) (st' : List Value) (H' : Heap) (locs' : List Loc), decode (zCode mi) pc' = .ok (ins, len) → zrt mi ins len st' = some r → zSt D dA b0 wf H' → va_S (fun q => b0 ≤ q) s.heap H' locs' →
    W p l e R s m args below meth c H' locs' (wf.1.1 - n0) (wf.1.2 - k0) Q (F0 m pc' ls' st')) →
  W p l e R s m args below meth c H locs (w.1.1 - n0) (w.1.2 - k0) Q (F0 m pc ls st)
/-- a contract out of a walk, by the method's own name (a class of which other methods are run by entries is served too) -/
theorem zMetW {l : Launch} {y : MethodName} {ws ws' : List Cond} {rm : Room} {Pc : Array Value → State → Prop} {Qc : Array Value → State → Outcome → State → Prop} {mc ms : Nat} {free : Addr → Prop} {cc : ByteArray} {maxL : Nat} {ret : Option FieldType}
    (hy : plainFor y = true) (hw : ws = Cond.code y cc maxL ret :: ws')
    (body : ∀ p e s m args below meth c s₁, BodyLoose p l y (headSpec ws rm) cc maxL ret e s m args below meth c s₁ → c.maxLocals = maxL → Pc args s →
      W p l e (headSpec ws rm).room s m args below meth c s.heap [] 0 0 (MQ below Qc args s mc ms free) (entryFrame m args maxL)) : Met l y ws rm Pc Qc mc ms free := by
  refine MetFree.of_bodySF (code := cc) (maxLocals := maxL) (ret := ret) hy ?_ ?_
  · intro args s m h hn
    obtain ⟨meth, c, h1, h2, h3, h4, h5, h6, -, -⟩ := Cond.code_spec hn (atoms_spec (ws := ws) h _ (by rw [hw]; exact List.mem_cons_self))
    exact ⟨meth, c, h1, h2, h3, h4, h5, h6⟩
  · intro p e s m args below meth c s₁ B hml hP _
    have hh0 : s₁.heap = s.heap := by rw [B.state]; rfl
    obtain ⟨t, a1, o, b1, b2, b3⟩ := body p e s m args below meth c s₁ B hml hP s₁ hh0 (Stand.of_body B)
    exact ⟨t, o, a1, b1, b2, ⟨b3.1, b3.2⟩⟩
theorem zMet {l : Launch} {D : va_G} {dA : Nat → ClassId} {b0 : Nat} {S : zS} {n : Nat} (hsim : zSim l D dA b0 S n) {d mj : Nat} {as : List Value} {w wf : zW} {v : Option Value} (h : zgo S n d mj 0 (lv_args 0 as) [] w = some (v, wf)) (hm : zMk mj) (hfit : (lg_sl as).length ≤ zML mj) :
    Met l (zY mj) (zws mj) (zRm d w wf) (zPc D dA b0 S w as) (zQ D dA b0 v wf) (wf.1.1 - w.1.1) (wf.1.2 - w.1.2) (fun q => b0 ≤ q) := by
  obtain ⟨hcode, hp, hy1, hy2, hini, hON, hKK⟩ := hm
  refine zMetW (cc := zCode mj) (maxL := zML mj) (ret := zRT mj) hp rfl ?_
  intro p e s m args below meth c s₁ B hml hv
  obtain ⟨rfl, hw, hct⟩ := hv
  have hts := atoms_spec (ws := zws mj) B.pre
  have hown : s.vm.findClass (zY mj).cls = some m.cls := findClass_of_methodNamed B.named
  have hlocks := B.notSynchronized
  have hx := B.exec
  have hb := B.bytes
  have hr := B.returns
  have E : zEn D dA b0 S p s m as.toArray meth c mj := ⟨hx, hb, hml, hr, hlocks, by rw [hON]; exact hown, fun h => (name_of_methodNamed B.named B.method).1.trans h, fun w hw => hts w (List.mem_cons_of_mem _ hw), hct⟩
  rw [lg_entry_eq]
  have hl := lv_entry as hfit
  have key := hsim h (R := zRm d w wf) (below := below) (e := e) (Q := MQ below (zQ D dA b0 v wf) as.toArray s (wf.1.1 - w.1.1) (wf.1.2 - w.1.2) (fun q => b0 ≤ q)) E hw (va_S.rf (A := fun q => b0 ≤ q)) hl (Nat.le_refl _) (Nat.le_refl _) (Nat.le_refl _) (Nat.le_refl _) (Nat.le_refl _) (Nat.le_refl _) ?_
  · rw [Nat.sub_self, Nat.sub_self] at key
    exact key
  · intro pc' ls' ins len st' H' locs' hd hz hst hS
    have hq : ∀ (o : Outcome), o = .returned v → ∀ t : State, t.heap = H' → s.WarmedH t.vm → zQ D dA b0 v wf as.toArray s o t := fun o ho t ht _ => ⟨ho, by rw [ht]; exact hst, hS.F ht⟩
    unfold zrt at hz
    split at hz
    · split at hz
      · rename_i ty hty
        split at hz
        · rename_i hn; cases hz
          exact W.zret hx hb (hr.trans hty) hn (hq _ rfl) hS.2.2 hd
        · cases hz
      · cases hz
    · split at hz
      · rename_i hty; cases hz
        exact W.lret hx hb (hr.trans hty) (hq _ rfl) hS.2.2 hd
      · cases hz
    · split at hz
      · rename_i hty; cases hz
        exact W.aret hx hb (hr.trans hty) (Or.inl ⟨_, rfl⟩) (Or.inr ⟨_, rfl⟩) (hq _ rfl) hS.2.2 hd
      · rename_i hty; cases hz
        exact W.aret hx hb (hr.trans hty) (Or.inr ⟨_, rfl⟩) (Or.inr ⟨_, rfl⟩) (hq _ rfl) hS.2.2 hd
      · cases hz
    · split at hz
      · rename_i hty; cases hz
        exact W.aret hx hb (hr.trans hty) (Or.inl ⟨_, rfl⟩) (Or.inl rfl) (hq _ rfl) hS.2.2 hd
      · rename_i hty; cases hz
        exact W.aret hx hb (hr.trans hty) (Or.inr ⟨_, rfl⟩) (Or.inl rfl) (hq _ rfl) hS.2.2 hd
      · cases hz
    · split at hz
      · rename_i hty; cases hz
        exact W.vret hx hb (hr.trans hty) (hq _ rfl) hS.2.2 hd
      · cases hz
    · cases hz
theorem zws_warm {s U : State} {args : Array Value} (hts : ∀ w ∈ zTbl, w.before args s = true) {mj : Nat} (hm : zMk mj) (hW : s.WarmedH U.vm) : ∀ w ∈ zws mj, ∀ a', w.before a' U = true := by
  intro w hw a'
  have hw2 : w ∈ zTbl := by
    rcases List.mem_cons.mp hw with rfl | h
    · exact hm.1
    · exact h
  exact word_at hW (zTbl_good w hw2) (hts w hw2)
theorem z_take {st rest : List Value} {n b : Nat} (h : st.drop n = .ref b :: rest) : st = ((st.take n).reverse).reverse ++ .ref b :: rest ∧ ((st.take n).reverse).length = n := by
  refine ⟨by rw [List.reverse_reverse, ← h]; exact (List.take_append_drop n st).symm, ?_⟩
  rw [List.length_reverse, List.length_take]
  have h1 : (st.drop n).length = rest.length + 1 := by rw [h]; rfl
  rw [List.length_drop] at h1
  omega
theorem z_take2 {st : List Value} {n : Nat} (h : n ≤ st.length) : st = ((st.take n).reverse).reverse ++ st.drop n ∧ ((st.take n).reverse).length = n := by
  refine ⟨by rw [List.reverse_reverse]; exact (List.take_append_drop n st).symm, ?_⟩
  rw [List.length_reverse, List.length_take]
  exact Nat.min_eq_left h
theorem zgo_obj {S : zS} {n d : Nat} {b : Nat} {w w' : zW} {v : Option Value} (h : zgo S n d 0 0 (lv_args 0 [.ref b]) [] w = some (v, w')) : v = none ∧ w' = w := by
  cases n with
  | zero => simp [zgo] at h
  | succ n =>
    have hd : decode (zCode 0) 0 = .ok (.return_, 1) := by decide +kernel
    rw [zgo, hd] at h
    have hz : zst S 0 .return_ 1 0 (lv_args 0 [.ref b]) [] w = some (.inr (.inr none)) := rfl
    dsimp only at h
    rw [hz] at h
    cases h
    exact ⟨rfl, rfl⟩
set_option maxHeartbeats 4000000 in
theorem z_sim (l : Launch) (D : va_G) (dA : Nat → ClassId) (b0 : Nat) (S : zS) : ∀ n, zSim l D dA b0 S n := by
  intro n
  induction n with
  | zero => intro d mi pc L st w wf r h; simp [zgo] at h
  | succ n ih =>
    intro d mi pc L st w wf r h p e R s m args below meth c H locs n0 k0 Q ls E hw hS0 hl hn hk hf hlo hce hsl hret
    have hx := E.1
    have hb := E.2.1
    rw [zgo] at h
    cases hd : decode (zCode mi) pc with
    | error x => rw [hd] at h; simp at h
    | ok q =>
      obtain ⟨ins, len⟩ := q
      rw [hd] at h
      dsimp only at h
      cases hz : zst S mi ins len pc L st w with
      | none => rw [hz] at h; simp at h
      | some q =>
        rw [hz] at h
        unfold zst at hz
        split at hz
        -- the stack
        · obtain ⟨q1, h9, hq⟩ := Option.map_eq_some_iff.mp hz; subst hq
          exact zs_alu hx hb hd h9 (ih h E hw hS0 hl hn hk hf hlo hce hsl hret)
        -- locals
        · obtain ⟨⟨L', st'⟩, h9, hq⟩ := Option.map_eq_some_iff.mp hz; subst hq
          exact zs_loc hx hb hd hl h9 (fun ls' hl' => ih h E hw hS0 hl' hn hk hf hlo hce hsl hret)
        -- branches
        · obtain ⟨⟨pc', st'⟩, h9, hq⟩ := Option.map_eq_some_iff.mp hz; subst hq
          exact zs_br hx hb hd h9 (ih h E hw hS0 hl hn hk hf hlo hce hsl hret)
        -- the heap
        · obtain ⟨⟨st', w'⟩, h9, hq⟩ := Option.map_eq_some_iff.mp hz; subst hq
          dsimp only at h
          have hg := zhp_grow h9
          have hg2 := zgo_grow n h
          exact zs_hp E hw hS0 hd h9 hn hk ⟨by omega, by omega⟩ (fun H1 locs1 h1 h2 => ih h E h1 h2 hl (by omega) (by omega) hf hlo hce hsl hret)
        -- calls
        · obtain ⟨⟨mj, as, rest⟩, h9, hq⟩ := Option.map_eq_some_iff.mp hz; subst hq
          dsimp only at h
          cases d with
          | zero => simp at h
          | succ d =>
            dsimp only at h
            cases hc : zgo S n d mj 0 (lv_args 0 as) [] w with
            | none => rw [hc] at h; simp at h
            | some q =>
              obtain ⟨v, w'⟩ := q
              rw [hc] at h
              have g1 := zgo_grow n hc
              have g2 := zgo_grow n h
              have hE := E
              obtain ⟨-, -, hml, -, -, hown, -, hts, hct⟩ := hE
              have hsz : ls.size = zML mi := hl.1
              have hmove : ∀ U : State, U.heap = H → s.WarmedH U.vm → zCt D dA b0 S U := fun U hU hW => hct.moved hW (by rw [hU]; exact hS0.2.1 S.1 (Nat.lt_of_lt_of_le hct.2.2.2.1 hct.2.2.2.2) (Nat.not_le.mpr hct.2.2.2.1)) (by rw [hU, hw.1]; exact hw.2.1)
              have hcs : w.1.1 - n0 + (w'.1.1 - w.1.1) ≤ R.cells ∧ w.1.2 - k0 + (w'.1.2 - w.1.2) ≤ R.slots := ⟨by omega, by omega⟩
              have e5 : w.1.1 - n0 + (w'.1.1 - w.1.1) = w'.1.1 - n0 := by omega
              have e6 : w.1.2 - k0 + (w'.1.2 - w.1.2) = w'.1.2 - k0 := by omega
              have next : ∀ (H1 : Heap) (locs1 : List Loc), zSt D dA b0 w' H1 → va_S (fun q => b0 ≤ q) s.heap H1 locs1 → W p l e R s m args below meth c H1 locs1 (w.1.1 - n0 + (w'.1.1 - w.1.1)) (w.1.2 - k0 + (w'.1.2 - w.1.2)) Q (F0 m (pc + 3) ls (v.toList ++ rest)) := by
                intro H1 locs1 h1 h2
                rw [e5, e6]
                exact ih h E h1 h2 hl (by omega) (by omega) hf hlo hce hsl hret
              have room : zMk mj → (zRm d w w').frames + 1 ≤ R.frames ∧ 8 + (zML mj + 11) + (zRm d w w').locals ≤ R.locals := by
                intro hm
                refine ⟨hf, ?_⟩
                have h1 := hm.2.2.2.2.2.2
                have h2 : (d + 1) * zKK = d * zKK + zKK := Nat.succ_mul d zKK
                show 8 + (zML mj + 11) + d * zKK ≤ R.locals
                omega
              have pre : ∀ {asv : List Value}, asv = as → ∀ U : State, U.heap = H → s.WarmedH U.vm → zPc D dA b0 S w as asv.toArray U := by
                intro asv hav U hU hW
                subst hav
                exact ⟨rfl, by rw [hU]; exact hw, hmove U hU hW⟩
              unfold zcl at h9
              split at h9
              -- invokevirtual
              · split at h9
                · rename_i hmt
                  split at h9
                  · rename_i b rest' hdr
                    split at h9
                    · rename_i hsh
                      split at h9
                      · rename_i hcond
                        cases h9
                        obtain ⟨hm, hpn, hlk, hkind⟩ := (zMt_ok hmt).2 (by decide)
                        rcases hkind with ⟨-, hin, hse, r0, hrc, hvc, hrn⟩ | ⟨h0, -⟩ | ⟨h0, -⟩
                        · have hM := zMet ih hc hm hcond.2.2
                          have hrcv : ∃ cellB : Cell, H[b]? = some cellB ∧ cellB.vm.isStatics = false ∧ s.vm.findClass (zY mj).cls = some cellB.cls := by
                            have hcj := Option.some.inj (hrc.symm.trans hcond.1)
                            rcases (hw.2.2 b _ hsh).2 with ⟨-, r', h1, cell, q1, q2, q3, -⟩ | ⟨h0, -⟩
                            · exact ⟨cell, q1, by rw [q3]; rfl, by rw [q2, ← hrn]; dsimp only; rw [← hcj]; exact (hct.2.1.1 _ r0 hvc).2.1⟩
                            · exact absurd h0 (by dsimp only; rw [← hcj]; exact Nat.not_le.mpr (zCl_lt hvc))
                          obtain ⟨hstk, hlen⟩ := z_take hdr
                          rcases hlk with hlk | ⟨host, hlk⟩
                          · exact z_after (va_runV ⟨hx, hb, hml, hown, hts⟩ hM ⟨⟨rfl, rfl, (room hm).1, (room hm).2, fun w hw a' U hW => zws_warm hts hm hW w hw a', List.mem_cons_self, hts _ hm.1, hts _ hm.2.2.2.2.1, ⟨hm.2.2.1, hm.2.2.2.1⟩, fun sig hsg => by rw [hsg] at hpn; exact (Option.some.inj hpn).symm, hts _ hlk⟩, hts _ hin, hts _ hse⟩ ⟨zPc.blind, hrcv, pre rfl⟩ rfl hlen hsz hstk (lv_room hcond.2.1) hd hcs) hS0 next
                          · exact z_after (va_runVN ⟨hx, hb, hml, hown, hts⟩ hM ⟨⟨⟨rfl, rfl, (room hm).1, (room hm).2, fun w hw a' U hW => zws_warm hts hm hW w hw a', List.mem_cons_self⟩, hts _ hm.1, hts _ hm.2.2.2.2.1, ⟨hm.2.2.1, hm.2.2.2.1⟩, fun sig hsg => by rw [hsg] at hpn; exact (Option.some.inj hpn).symm, va_Nw.use rfl (hct.1 _ hlk)⟩, hts _ hin, hts _ hse⟩ ⟨zPc.blind, hrcv, pre rfl⟩ rfl hlen hsz hstk (lv_room hcond.2.1) hd hcs) hS0 next
                        · exact absurd h0 (by decide)
                        · exact absurd h0 (by decide)
                      · cases h9
                    · cases h9
                  · cases h9
                · cases h9
              -- invokespecial
              · split at h9
                · rename_i hmt
                  split at h9
                  · rename_i b rest' hdr
                    split at h9
                    · rename_i hcond
                      cases h9
                      obtain ⟨hm, hpn, hlk, hkind⟩ := (zMt_ok hmt).2 (by decide)
                      rcases hkind with ⟨h0, -⟩ | ⟨-, hin, hnm, hrt⟩ | ⟨h0, -⟩
                      · exact absurd h0 (by decide)
                      · have hM := zMet ih hc hm hcond.2
                        obtain ⟨hstk, hlen⟩ := z_take hdr
                        have hcw : Cond.code (zY mj) (zCode mj) (zML mj) none ∈ zws mj := by rw [← hrt]; exact List.mem_cons_self
                        rcases hlk with hlk | ⟨host, hlk⟩
                        · exact z_after (va_runI ⟨hx, hb, hml, hown, hts⟩ hM ⟨⟨rfl, rfl, (room hm).1, (room hm).2, fun w hw a' U hW => zws_warm hts hm hW w hw a', hcw, by rw [← hrt]; exact hts _ hm.1, hts _ hm.2.2.2.2.1, ⟨hm.2.2.1, hm.2.2.2.1⟩, fun sig hsg => by rw [hsg] at hpn; exact (Option.some.inj hpn).symm, hts _ hlk⟩, hnm, hts _ hin⟩ ⟨zPc.blind, pre rfl⟩ rfl hlen hsz hstk (lv_room hcond.1) hd hcs) hS0 next
                        · exact z_after (va_runIN ⟨hx, hb, hml, hown, hts⟩ hM ⟨⟨⟨rfl, rfl, (room hm).1, (room hm).2, fun w hw a' U hW => zws_warm hts hm hW w hw a', hcw⟩, by rw [← hrt]; exact hts _ hm.1, hts _ hm.2.2.2.2.1, ⟨hm.2.2.1, hm.2.2.2.1⟩, fun sig hsg => by rw [hsg] at hpn; exact (Option.some.inj hpn).symm, va_Nw.use rfl (hct.1 _ hlk)⟩, hnm, hts _ hin⟩ ⟨zPc.blind, pre rfl⟩ rfl hlen hsz hstk (lv_room hcond.1) hd hcs) hS0 next
                      · exact absurd h0 (by decide)
                    · cases h9
                  · cases h9
                · rename_i hmt
                  split at h9
                  · rename_i b rest'
                    split at h9
                    · rename_i hcond
                      cases h9
                      obtain ⟨ho1, ho2, ho3⟩ := (zMt_ok hmt).1 rfl
                      · obtain ⟨rfl, rfl⟩ := zgo_obj hc
                        have h1 : 1 ≤ R.frames := by omega
                        have h2 : zcs rest + 12 ≤ R.locals := by
                          have h3 : (d + 1) * zKK = d * zKK + zKK := Nat.succ_mul d zKK
                          have h4 : 20 ≤ zKK := by decide
                          have h5 := hcond
                          omega
                        have nx := next H locs hw hS0
                        rw [Nat.sub_self, Nat.sub_self, Nat.add_zero, Nat.add_zero] at nx
                        exact W.objInit hx hb hown (hts _ ho1) (hts _ ho2) (hts _ ho3) rfl (by rw [hml]; exact hsz) rfl hd h1 (by simpa [JFrame.monitorRoom, zcs] using h2) nx
                    · cases h9
                  · cases h9
                · cases h9
              -- invokestatic
              · split at h9
                · rename_i hmt
                  split at h9
                  · rename_i hcond
                    cases h9
                    obtain ⟨hm, hpn, hlk, hkind⟩ := (zMt_ok hmt).2 (by decide)
                    rcases hkind with ⟨h0, -⟩ | ⟨h0, -⟩ | ⟨-, hin⟩
                    · exact absurd h0 (by decide)
                    · exact absurd h0 (by decide)
                    · have hM := zMet ih hc hm hcond.2.2
                      obtain ⟨hstk, hlen⟩ := z_take2 hcond.1
                      rcases hlk with hlk | ⟨host, hlk⟩
                      · exact z_after (va_runS ⟨hx, hb, hml, hown, hts⟩ hM ⟨⟨rfl, rfl, (room hm).1, (room hm).2, fun w hw a' U hW => zws_warm hts hm hW w hw a', List.mem_cons_self, hts _ hm.1, hts _ hm.2.2.2.2.1, ⟨hm.2.2.1, hm.2.2.2.1⟩, fun sig hsg => by rw [hsg] at hpn; exact (Option.some.inj hpn).symm, hts _ hlk⟩, hts _ hin⟩ ⟨zPc.blind, pre rfl⟩ rfl hlen hsz hstk (lv_room hcond.2.1) hd hcs) hS0 next
                      · exact z_after (va_runSN ⟨hx, hb, hml, hown, hts⟩ hM ⟨⟨⟨rfl, rfl, (room hm).1, (room hm).2, fun w hw a' U hW => zws_warm hts hm hW w hw a', List.mem_cons_self⟩, hts _ hm.1, hts _ hm.2.2.2.2.1, ⟨hm.2.2.1, hm.2.2.2.1⟩, fun sig hsg => by rw [hsg] at hpn; exact (Option.some.inj hpn).symm, va_Nw.use rfl (hct.1 _ hlk)⟩, hts _ hin, trivial⟩ ⟨zPc.blind, pre rfl⟩ rfl hlen hsz hstk (lv_room hcond.2.1) hd hcs) hS0 next
                  · cases h9
                · cases h9
              · cases h9
        -- returns
        · obtain ⟨q1, h9, hq⟩ := Option.map_eq_some_iff.mp hz; subst hq
          cases h
          exact hret pc ls ins len st H locs hd h9 hw hS0
        · cases hz
