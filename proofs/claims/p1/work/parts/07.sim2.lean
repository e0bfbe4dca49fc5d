/-! the pure machine's steps are the machine's: the heap -/
def zAt (D : va_G) (dA : Nat → ClassId) (a : Nat) (q : Nat × Nat) (f : Nat → Value) (H : Heap) : Prop :=
  (q.1 < 100 ∧ ∃ r : vw_C, vwCl[q.1]? = some r ∧ t_OB a (D.1 q.1) r.2.2 (D.2 q.1) H f) ∨ (100 ≤ q.1 ∧ q.1 - 100 < zNT ∧ H[a]? = some (arrV (dA (q.1 - 100)) q.2 f))
def zSt (D : va_G) (dA : Nat → ClassId) (b0 : Nat) (w : zW) (H : Heap) : Prop := H.size = w.1.1 ∧ b0 ≤ w.1.1 ∧ ∀ a q, w.2.1 a = some q → b0 ≤ a ∧ zAt D dA a q (w.2.2 a) H
def zTys (dA : Nat → ClassId) : List (ClassId × FieldType) := (List.range zNT).map fun k => (dA k, zAK k)
theorem zTys_at (dA : Nat → ClassId) {k : Nat} (h : k < zNT) : (zTys dA)[k]? = some (dA k, zAK k) := by
  unfold zTys
  rw [List.getElem?_map, List.getElem?_range h]
  rfl
theorem zAt.lt {D : va_G} {dA : Nat → ClassId} {a : Nat} {q : Nat × Nat} {f : Nat → Value} {H : Heap} (h : zAt D dA a q f H) : a < H.size := by
  rcases h with ⟨-, r, -, cell, h1, -⟩ | ⟨-, -, h1⟩
  · exact (Array.getElem?_eq_some_iff.mp h1).1
  · exact (Array.getElem?_eq_some_iff.mp h1).1
theorem zAt.kept {D : va_G} {dA : Nat → ClassId} {a : Nat} {q : Nat × Nat} {f g : Nat → Value} {H H1 : Heap} (h : zAt D dA a q f H) (hq : H1[a]? = H[a]?) (hf : f = g) : zAt D dA a q g H1 := by
  subst hf
  rcases h with ⟨h0, r, h1, h2⟩ | ⟨h0, h1, h2⟩
  · exact Or.inl ⟨h0, r, h1, h2.kept hq⟩
  · exact Or.inr ⟨h0, h1, hq.trans h2⟩
theorem zSt.put {D : va_G} {dA : Nat → ClassId} {b0 : Nat} {w : zW} {H H1 : Heap} {a k : Nat} {q : Nat × Nat} {v : Value} (h : zSt D dA b0 w H) (ha : w.2.1 a = some q) (he : zAt D dA a q (updV (w.2.2 a) k v) H1) (z : H1.size = H.size) (oq : ∀ x, x ≠ a → H1[x]? = H[x]?) : zSt D dA b0 (zset w a k v) H1 := by
  refine ⟨z.trans h.1, h.2.1, fun x q' hx => ?_⟩
  have hx' : w.2.1 x = some q' := hx
  refine ⟨(h.2.2 x q' hx').1, ?_⟩
  by_cases hxa : x = a
  · subst hxa
    cases ha.symm.trans hx'
    have e : (zset w x k v).2.2 x = updV (w.2.2 x) k v := by
      funext j
      simp [zset, updV]
    rw [e]
    exact he
  · have e : (w.2.2 x) = (zset w a k v).2.2 x := by
      funext j
      simp [zset, hxa]
    exact (h.2.2 x q' hx').2.kept (oq x hxa) e
theorem zSt.push {D : va_G} {dA : Nat → ClassId} {b0 : Nat} {w : zW} {H H1 : Heap} {c n : Nat} {f : Nat → Value} (h : zSt D dA b0 w H) (he : zAt D dA w.1.1 (c, n) f H1) (z : H1.size = w.1.1 + 1) (oq : ∀ x, x < w.1.1 → H1[x]? = H[x]?) : zSt D dA b0 (zpush w c n f) H1 := by
  refine ⟨z, Nat.le_succ_of_le h.2.1, fun x q' hx => ?_⟩
  by_cases hxa : x = w.1.1
  · subst hxa
    have hx2 : (some (c, n) : Option (Nat × Nat)) = some q' := by
      have := hx
      simp only [zpush, if_true] at this
      exact this
    cases hx2
    refine ⟨h.2.1, ?_⟩
    have e : (zpush w c n f).2.2 w.1.1 = f := by
      funext j
      simp [zpush]
    rw [e]
    exact he
  · have hx' : w.2.1 x = some q' := by
      have := hx
      simp only [zpush, hxa, if_false] at this
      exact this
    obtain ⟨g1, g2⟩ := h.2.2 x q' hx'
    have e : (w.2.2 x) = (zpush w c n f).2.2 x := by
      funext j
      simp [zpush, hxa]
    exact ⟨g1, g2.kept (oq x (by have := g2.lt; rw [h.1] at this; exact this)) e⟩
/-- what holds of a state at a method's entry, beside its world: the nest's words, the classes, the script -/
def zCt (D : va_G) (dA : Nat → ClassId) (b0 : Nat) (S : zS) (U : State) : Prop :=
  (∀ w ∈ zNst, va_Nw w U) ∧ va_K D vwCl (zTys dA) U ∧ va_X S.1 S.2.1 S.2.2 U U.heap ∧ S.1 < b0 ∧ b0 ≤ U.heap.size
def zEn (D : va_G) (dA : Nat → ClassId) (b0 : Nat) (S : zS) (p : Program) (s : State) (m : MethodId) (args : Array Value) (meth : Method) (c : Code) (mi : Nat) : Prop :=
  p.tables.exec = Jvm.exec ∧ c.code = zCode mi ∧ c.maxLocals = zML mi ∧ meth.sig.returnType = zRT mi ∧ meth.locks = false ∧ s.vm.findClass (zON (zOC mi)) = some m.cls ∧ ((zY mi).name = "<init>" → meth.name = "<init>") ∧ (∀ w ∈ zTbl, w.before args s = true) ∧ zCt D dA b0 S s
section ZSIM2
variable {p : Program} {l : Launch} {e : Env} {R : Room} {s : State} {m : MethodId} {args : Array Value} {below : List Frame} {meth : Method} {c : Code} {H : Heap} {locs : List Loc} {cells slots : Nat} {Q : State → Prop}
variable {D : va_G} {dA : Nat → ClassId} {b0 : Nat} {S : zS} {mi pc len : Nat} {ls : Array Slot} {ins : Jvm.ClassFile.Instr}
theorem zs_get {w : zW} {idx ci k a n : Nat} {r : List Value} (E : zEn D dA b0 S p s m args meth c mi) (hw : zSt D dA b0 w H) (hd : decode (zCode mi) pc = .ok (.getfield idx, 3)) (hf : zFld (zOC mi) idx = some (ci, k)) (hs : w.2.1 a = some (ci, n))
    (kk : W p l e R s m args below meth c H locs cells slots Q (F0 m (pc + 3) ls (w.2.2 a k :: r))) : W p l e R s m args below meth c H locs cells slots Q (F0 m pc ls (.ref a :: r)) := by
  obtain ⟨hx, hb, -, -, -, hown, -, hts, hns, hK, -⟩ := E
  obtain ⟨C, T, N, hc, h100, hk, hC, hl⟩ := zFld_ok hf
  obtain ⟨hin, -⟩ := zCl_ok hc
  rcases (hw.2.2 a _ hs).2 with ⟨-, r', h1, cell, q1, q2, q3, q4⟩ | ⟨h0, -⟩
  · have hr : r' = (C, T, N) := Option.some.inj (h1.symm.trans hc)
    subst hr
    obtain ⟨hS, hfc, kC, hkC, hkind⟩ := hK.1 ci _ hc
    obtain ⟨cf, kf, fi, f, hi, hsl⟩ := hS k hk
    rw [hC] at hi
    have hst := (u_facts hfc hkC (by have := u_lays hts hin hk; rw [hC] at this; exact this) hi).1
    rcases hl with hl | ⟨host, hl⟩
    · exact W.getf hx hb hown (hts _ hl) hi hst q1 (by rw [q3]; exact fun h => by cases h) (v := w.2.2 a k) (by rw [hsl]; exact q4 k hk) rfl rfl hd kk
    · exact va_Wgetf hx hb hown (va_Nw.use rfl (hns _ hl)) hi hst q1 (by rw [q3]; exact fun h => by cases h) (v := w.2.2 a k) (by rw [hsl]; exact q4 k hk) rfl rfl hd kk
  · exact absurd h0 (Nat.not_le.mpr h100)
theorem zs_put {w : zW} {idx ci k a n : Nat} {v : Value} {r : List Value} (E : zEn D dA b0 S p s m args meth c mi) (hw : zSt D dA b0 w H) (hS0 : va_S (fun q => b0 ≤ q) s.heap H locs) (hd : decode (zCode mi) pc = .ok (.putfield idx, 3)) (hf : zFld (zOC mi) idx = some (ci, k)) (hs : w.2.1 a = some (ci, n)) (hv : zPf mi ci k v)
    (kk : ∀ (H1 : Heap) (locs1 : List Loc), zSt D dA b0 (zset w a k v) H1 → va_S (fun q => b0 ≤ q) s.heap H1 locs1 → W p l e R s m args below meth c H1 locs1 cells slots Q (F0 m (pc + 3) ls r)) : W p l e R s m args below meth c H locs cells slots Q (F0 m pc ls (v :: .ref a :: r)) := by
  obtain ⟨hx, hb, -, -, -, hown, hini, hts, hns, hK, -⟩ := E
  obtain ⟨C, T, N, hc, h100, hk, hC, hl⟩ := zFld_ok hf
  obtain ⟨hin, hty, hnm, hfi, -⟩ := zCl_ok hc
  have hap := va_apart (own := C) hts hin (zFT ci) hty hnm hK hc
  obtain ⟨ha0, hat⟩ := hw.2.2 a _ hs
  rcases hat with ⟨-, r', h1, cell, q1, q2, q3, q4⟩ | ⟨h0, -⟩
  · have hr : r' = (C, T, N) := Option.some.inj (h1.symm.trans hc)
    subst hr
    obtain ⟨hS, hfc, kC, hkC, hkind⟩ := hK.1 ci _ hc
    obtain ⟨cf, kf, fi, f, hi, hsl⟩ := hS k hk
    have hlay := hts _ (hin _ (u_in_lay hk))
    unfold u_lay at hlay
    have hst := (u_facts hfc hkC (u_lays hts hin hk) hi).1
    have fin : ∀ H' : Heap, H'[a]? = some (cell.setSlot f.slot v) → H'.size = H.size → (∀ q, q ≠ a → H'[q]? = H[q]?) → W p l e R s m args below meth c H' (locs ++ [⟨a, f.slot⟩]) cells slots Q (F0 m (pc + 3) ls r) := by
      intro H' e1 e2 e3
      rw [hsl] at e1 ⊢
      exact kk H' _ (hw.put hs (Or.inl ⟨h100, _, hc, ⟨_, e1, q2, q3, t_set q4 hap hk v⟩⟩) e2 e3) (hS0.put e2 e3 ha0)
    obtain ⟨hv1, hv2, hv3⟩ := hv
    rcases hv3 with hv3 | ⟨hv3, hoc, hnam⟩
    · rw [if_neg (by rw [hfi k hk, hv3]; decide)] at hlay
      have h6 := u_store hfc hkC hkind hlay hi (hty k hk) hv1 hv2
      rw [hC] at hi
      rcases hl with hl | ⟨host, hl⟩
      · exact W.putK hx hb (f := f) ⟨hown, hts _ hl, ⟨_, _, _, hi⟩, hst⟩ (by rw [q2]; exact h6) q1 q3 (by rw [hsl]; exact k2_hasslot (q4 k hk)) rfl rfl hd fin
      · exact va_WputK hx hb (f := f) hown (va_Nw.use rfl (hns _ hl)) hi hst (by rw [q2]; exact h6) q1 q3 (by rw [hsl]; exact k2_hasslot (q4 k hk)) rfl rfl hd fin
    · rw [if_pos (by rw [hfi k hk, hv3])] at hlay
      have hcf : m.cls = cf := by
        obtain ⟨_, _, c', _, _, _, -, -, hf', -, -, -, hown2, -⟩ := Cond.laysFinal_spec hlay
        have e1 : c' = cf := by have := hi.symm.trans hf'; simp at this; exact this.1.symm
        rw [hC, ← zON_ok hc, ← hoc] at hown2
        rw [← e1]; exact Option.some.inj (hown.symm.trans hown2)
      have h6 := u_fits hfc hkC hkind (Or.inr hlay) hi (hty k hk) hv1 hv2
      rw [hC] at hi
      rcases hl with hl | ⟨host, hl⟩
      · exact W.putFinK hx hb hown (hts _ hl) hi hst hcf (hini hnam) (by rw [q2]; exact h6) q1 q3 (by rw [hsl]; exact k2_hasslot (q4 k hk)) rfl rfl hd fin
      · have haH : a < H.size := (Array.getElem?_eq_some_iff.mp q1).1
        refine va_Wputf hx hb hown (va_Nw.use rfl (hns _ hl)) hi hst (Or.inr ⟨hcf, hini hnam⟩) q1 (by rw [q3]; exact fun h => by cases h) (by rw [hsl]; exact k2_hasslot (q4 k hk)) h6.1 (by rw [q3, q2]; exact h6.2) rfl rfl hd ?_
        exact fin _ (by simp [Array.getElem?_setIfInBounds, haH]) (by simp) (fun q hq => by simp [Array.getElem?_setIfInBounds, Ne.symm hq])
  · exact absurd h0 (Nat.not_le.mpr h100)
theorem zs_new {w : zW} {idx ci n0 k0 : Nat} {r : List Value} (E : zEn D dA b0 S p s m args meth c mi) (hw : zSt D dA b0 w H) (hS0 : va_S (fun q => b0 ≤ q) s.heap H locs) (hd : decode (zCode mi) pc = .ok (.new idx, 3)) (hf : zNew (zOC mi) idx = some ci) (hn : n0 ≤ w.1.1) (hk : k0 ≤ w.1.2) (hR : w.1.1 + 1 - n0 ≤ R.cells ∧ w.1.2 + zN ci - k0 ≤ R.slots)
    (kk : ∀ (H1 : Heap), zSt D dA b0 (zpush w ci (zN ci) (zBl ci)) H1 → va_S (fun q => b0 ≤ q) s.heap H1 locs → W p l e R s m args below meth c H1 locs (w.1.1 + 1 - n0) (w.1.2 + zN ci - k0) Q (F0 m (pc + 3) ls (.ref w.1.1 :: r))) : W p l e R s m args below meth c H locs (w.1.1 - n0) (w.1.2 - k0) Q (F0 m pc ls r) := by
  obtain ⟨hx, hb, -, -, -, hown, hini, hts, hns, hK, -⟩ := E
  obtain ⟨C, T, hc, h100, h1, h2, h3⟩ := zNew_ok hf
  obtain ⟨hin, hty, -⟩ := zCl_ok hc
  have hKn := hK.1 ci _ hc
  refine W.newcK hx hb hown (hts _ h1) (hts _ h2) (hts _ h3) rfl hd (by omega) (by omega) hKn.2.1 hw.1 fun H1 kC hkC e1 z1 o1 => ?_
  have e5 : w.1.1 - n0 + 1 = w.1.1 + 1 - n0 := by omega
  have e6 : w.1.2 - k0 + zN ci = w.1.2 + zN ci - k0 := by omega
  rw [e5, e6]
  refine kk H1 (hw.push (Or.inl ⟨h100, _, hc, ?_⟩) z1 o1) ⟨Nat.le_trans hS0.1 (by rw [z1, ← hw.1]; omega), fun q g1 g2 => ?_, hS0.2.2⟩
  · exact u_born (zFT ci) hts hin hKn hkC e1 hty
  · rw [o1 q (by rw [← hw.1]; exact Nat.lt_of_lt_of_le g1 hS0.1)]
    exact hS0.2.1 q g1 g2
theorem zs_newa {w : zW} {t : Jvm.ClassFile.ArrayType} {n : Int32} {k n0 k0 : Nat} {r : List Value} (E : zEn D dA b0 S p s m args meth c mi) (hw : zSt D dA b0 w H) (hS0 : va_S (fun q => b0 ≤ q) s.heap H locs) (hd : decode (zCode mi) pc = .ok (.newarray t, 2)) (hf : zNA t = some k) (hp : ¬ n < 0 ∧ n.toNatClampNeg ≤ 60000000) (hn : n0 ≤ w.1.1) (hk : k0 ≤ w.1.2) (hR : w.1.1 + 1 - n0 ≤ R.cells ∧ w.1.2 + n.toNatClampNeg - k0 ≤ R.slots)
    (kk : ∀ (H1 : Heap), zSt D dA b0 (zpush w (100 + k) n.toNatClampNeg (fun _ => defaultValue (zAK k))) H1 → va_S (fun q => b0 ≤ q) s.heap H1 locs → W p l e R s m args below meth c H1 locs (w.1.1 + 1 - n0) (w.1.2 + n.toNatClampNeg - k0) Q (F0 m (pc + 2) ls (.ref w.1.1 :: r))) : W p l e R s m args below meth c H locs (w.1.1 - n0) (w.1.2 - k0) Q (F0 m pc ls (.int n :: r)) := by
  obtain ⟨hx, hb, -, -, -, hown, hini, hts, hns, hK, -⟩ := E
  obtain ⟨hkN, hty, hwd, hcb, hnm⟩ := zNA_ok hf
  refine va_newaK hx hb (hts _ hwd) rfl hd rfl hp.1 rfl (by have := hp.2; have := Nat.mul_le_mul this hcb; omega) (by omega) (by omega) hw.1 fun H1 cA e1 z1 o1 hAr hNm => ?_
  have e5 : w.1.1 - n0 + 1 = w.1.1 + 1 - n0 := by omega
  have e6 : w.1.2 - k0 + n.toNatClampNeg = w.1.2 + n.toNatClampNeg - k0 := by omega
  rw [e5, e6]
  have hcA : cA = dA k := by
    have h9 := (hK.2 k _ (zTys_at dA hkN)).2
    rw [← hty] at h9
    have h8 : s.vm.findClass ("[" ++ (newarray.typeOf t).toString) = some (dA k) := by
      cases t <;> exact h9
    exact Option.some.inj (hNm.symm.trans h8)
  refine kk H1 (hw.push (Or.inr ⟨by omega, by rw [Nat.add_sub_cancel_left]; exact hkN, ?_⟩) z1 o1) ⟨Nat.le_trans hS0.1 (by rw [z1, ← hw.1]; omega), fun q g1 g2 => ?_, hS0.2.2⟩
  · rw [Nat.add_sub_cancel_left, ← hcA, ← hty]
    exact e1
  · rw [o1 q (by rw [← hw.1]; exact Nat.lt_of_lt_of_le g1 hS0.1)]
    exact hS0.2.1 q g1 g2
theorem zs_newq {w : zW} {idx k n0 k0 : Nat} {n : Int32} {r : List Value} (E : zEn D dA b0 S p s m args meth c mi) (hw : zSt D dA b0 w H) (hS0 : va_S (fun q => b0 ≤ q) s.heap H locs) (hd : decode (zCode mi) pc = .ok (.anewarray idx, 3)) (hf : zAN (zOC mi) idx = some k) (hp : ¬ n < 0 ∧ n.toNatClampNeg ≤ 60000000) (hn : n0 ≤ w.1.1) (hk : k0 ≤ w.1.2) (hR : w.1.1 + 1 - n0 ≤ R.cells ∧ w.1.2 + n.toNatClampNeg - k0 ≤ R.slots)
    (kk : ∀ (H1 : Heap), zSt D dA b0 (zpush w (100 + k) n.toNatClampNeg (fun _ => .null)) H1 → va_S (fun q => b0 ≤ q) s.heap H1 locs → W p l e R s m args below meth c H1 locs (w.1.1 + 1 - n0) (w.1.2 + n.toNatClampNeg - k0) Q (F0 m (pc + 3) ls (.ref w.1.1 :: r))) : W p l e R s m args below meth c H locs (w.1.1 - n0) (w.1.2 - k0) Q (F0 m pc ls (.int n :: r)) := by
  obtain ⟨hx, hb, -, -, -, hown, hini, hts, hns, hK, -⟩ := E
  obtain ⟨C, hkN, hty, hcl, hov⟩ := zAN_ok hf
  refine W.anew hx hb hown (hts _ hcl) (va_AO.use (hns _ hov)) rfl hd rfl hp.1 (by omega) (by omega) (by omega) fun cA kA comp f1 f2 f3 f4 => ?_
  have e5 : w.1.1 - n0 + 1 = w.1.1 + 1 - n0 := by omega
  have e6 : w.1.2 - k0 + n.toNatClampNeg = w.1.2 + n.toNatClampNeg - k0 := by omega
  rw [e5, e6, hw.1]
  generalize hH1 : H.push ({ cls := cA, slots := Array.replicate n.toNatClampNeg .null, vm := .none } : Cell) = H1
  have z1 : H1.size = w.1.1 + 1 := by rw [← hH1, Array.size_push, hw.1]
  have e1 : H1[w.1.1]? = some (arrV cA n.toNatClampNeg (fun _ => .null)) := by rw [← hH1, ← hw.1, Array.getElem?_push_size, ← arrV_new]
  have o1 : ∀ q : Nat, q < w.1.1 → H1[q]? = H[q]? := fun q hq => by rw [← hH1, Array.getElem?_push, if_neg (by rw [hw.1]; exact Nat.ne_of_lt hq)]
  have hcA : cA = dA k := by
    have h9 := (hK.2 k _ (zTys_at dA hkN)).2
    rw [hty] at h9
    obtain ⟨_, _, _, _, _, h8⟩ := h9
    exact Option.some.inj (f1.symm.trans h8)
  refine kk H1 (hw.push (Or.inr ⟨by omega, by rw [Nat.add_sub_cancel_left]; exact hkN, ?_⟩) z1 o1) ⟨Nat.le_trans hS0.1 (by rw [z1, ← hw.1]; omega), fun q g1 g2 => ?_, hS0.2.2⟩
  · rw [Nat.add_sub_cancel_left, ← hcA]
    exact e1
  · rw [o1 q (by rw [← hw.1]; exact Nat.lt_of_lt_of_le g1 hS0.1)]
    exact hS0.2.1 q g1 g2
theorem zs_arr {w : zW} {a ct n : Nat} (hw : zSt D dA b0 w H) (hs : w.2.1 a = some (ct, n)) (h100 : 100 ≤ ct) : ct - 100 < zNT ∧ H[a]? = some (arrV (dA (ct - 100)) n (w.2.2 a)) := by
  rcases (hw.2.2 a _ hs).2 with ⟨h0, -⟩ | ⟨-, h1, h2⟩
  · exact absurd h100 (Nat.not_le.mpr h0)
  · exact ⟨h1, h2⟩
theorem zs_ast {w : zW} {a ct n j : Nat} {v : Value} (hw : zSt D dA b0 w H) (hS0 : va_S (fun q => b0 ≤ q) s.heap H locs) (hs : w.2.1 a = some (ct, n)) (h100 : 100 ≤ ct) {H1 : Heap} (e1 : H1[a]? = some ((arrV (dA (ct - 100)) n (w.2.2 a)).setSlot j v)) (z : H1.size = H.size) (oq : ∀ q, q ≠ a → H1[q]? = H[q]?) : zSt D dA b0 (zset w a j v) H1 ∧ va_S (fun q => b0 ≤ q) s.heap H1 (locs ++ [⟨a, j⟩]) := by
  obtain ⟨hN, -⟩ := zs_arr hw hs h100
  rw [arrV_store] at e1
  exact ⟨hw.put hs (Or.inr ⟨h100, hN, e1⟩) z oq, hS0.put z oq (hw.2.2 a _ hs).1⟩
end ZSIM2
