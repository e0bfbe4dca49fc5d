/-! the pure machine's steps are the machine's: every step of the heap; calls; whole runs -/
section ZSIM3
variable {p : Program} {l : Launch} {e : Env} {R : Room} {s : State} {m : MethodId} {args : Array Value} {below : List Frame} {meth : Method} {c : Code} {H : Heap} {locs : List Loc} {cells slots : Nat} {Q : State → Prop}
variable {D : va_G} {dA : Nat → ClassId} {b0 : Nat} {S : zS} {mi pc len : Nat} {ls : Array Slot} {ins : Jvm.ClassFile.Instr}
set_option maxHeartbeats 4000000 in
theorem zs_hp {w w' : zW} {st st' : List Value} {n0 k0 : Nat} (E : zEn D dA b0 S p s m args meth c mi) (hw : zSt D dA b0 w H) (hS0 : va_S (fun q => b0 ≤ q) s.heap H locs) (hd : decode (zCode mi) pc = .ok (ins, len)) (h : zhp S mi ins len st w = some (st', w')) (hn : n0 ≤ w.1.1) (hk : k0 ≤ w.1.2) (hR : w'.1.1 - n0 ≤ R.cells ∧ w'.1.2 - k0 ≤ R.slots)
    (kk : ∀ (H1 : Heap) (locs1 : List Loc), zSt D dA b0 w' H1 → va_S (fun q => b0 ≤ q) s.heap H1 locs1 → W p l e R s m args below meth c H1 locs1 (w'.1.1 - n0) (w'.1.2 - k0) Q (F0 m (pc + len) ls st')) : W p l e R s m args below meth c H locs (w.1.1 - n0) (w.1.2 - k0) Q (F0 m pc ls st) := by
  have E0 := E
  obtain ⟨hx, hb, -, -, -, hown, hini, hts, hns, hK, hX, hSb, hbs⟩ := E0
  have hA : ∀ {k : Nat}, k < zNT → ArrOfT s (dA k) (zAK k) := fun h => (hK.2 _ _ (zTys_at dA h)).1
  unfold zhp at h
  split at h
  -- getfield
  · split at h
    · rename_i hf hs
      split at h
      · rename_i hc; cases h; subst hc; exact zs_get E hw hd hf hs (kk H locs hw hS0)
      · cases h
    · cases h
  -- putfield
  · split at h
    · rename_i hf hs
      split at h
      · rename_i hc; cases h; obtain ⟨rfl, hc⟩ := hc; exact zs_put E hw hS0 hd hf hs hc kk
      · cases h
    · cases h
  -- new
  · split at h
    · rename_i hf; cases h; exact zs_new E hw hS0 hd hf hn hk hR (fun H1 h1 h2 => kk H1 locs h1 h2)
    · cases h
  -- newarray
  · split at h
    · rename_i hf
      split at h
      · rename_i hp; cases h; exact zs_newa E hw hS0 hd hf hp hn hk hR (fun H1 h1 h2 => kk H1 locs h1 h2)
      · cases h
    · cases h
  -- anewarray
  · split at h
    · rename_i hf
      split at h
      · rename_i hp; cases h; exact zs_newq E hw hS0 hd hf hp hn hk hR (fun H1 h1 h2 => kk H1 locs h1 h2)
      · cases h
    · cases h
  -- arraylength
  · split at h
    · rename_i hs
      split at h
      · rename_i hc; cases h
        obtain ⟨hN, hcell⟩ := zs_arr hw hs hc
        exact W.alen hx hb hcell (hA hN _ _) (by rw [arrV_size]) rfl rfl hd (kk H locs hw hS0)
      · cases h
    · split at h
      · rename_i hc; cases h; subst hc
        exact va_slen hx hb hX (Nat.lt_of_lt_of_le hSb hbs) (Nat.not_le.mpr hSb) hS0 hd (kk H locs hw hS0)
      · cases h
  -- iaload
  · split at h
    · rename_i hs
      split at h
      · rename_i hc; cases h
        obtain ⟨hN, hcell⟩ := zs_arr hw hs hc.1
        exact W.iald hx hb hcell (by have := hA hN; rw [hc.2.1] at this; exact this _ _) (fun q => by cases q) (by rw [arrV_size]; exact hc.2.2) (arrV_read _ _ (Nat.not_le.mp fun q => hc.2.2 (Or.inr q))) rfl rfl hd (kk H locs hw hS0)
      · cases h
    · split at h
      · rename_i hc; cases h; obtain ⟨rfl, hc⟩ := hc
        exact va_sld hx hb hX (Nat.lt_of_lt_of_le hSb hbs) (Nat.not_le.mpr hSb) hS0 hc hd (kk H locs hw hS0)
      · cases h
  -- laload
  · split at h
    · rename_i hs
      split at h
      · rename_i hc; cases h
        obtain ⟨hN, hcell⟩ := zs_arr hw hs hc.1
        exact W.lald hx hb hcell (by have := hA hN; rw [hc.2.1] at this; exact this _ _) (fun q => by cases q) (by rw [arrV_size]; exact hc.2.2) (arrV_read _ _ (Nat.not_le.mp fun q => hc.2.2 (Or.inr q))) rfl rfl hd (kk H locs hw hS0)
      · cases h
    · cases h
  -- baload
  · split at h
    · rename_i hs
      split at h
      · rename_i hc; cases h
        obtain ⟨hN, hcell⟩ := zs_arr hw hs hc.1
        exact W.zald hx hb hcell (by have := hA hN; rw [hc.2.1] at this; exact this _ _) (fun q => by cases q) (by rw [arrV_size]; exact hc.2.2) (arrV_read _ _ (Nat.not_le.mp fun q => hc.2.2 (Or.inr q))) rfl rfl hd (kk H locs hw hS0)
      · cases h
    · cases h
  -- aaload
  · split at h
    · rename_i hs
      split at h
      · rename_i hc; cases h
        obtain ⟨hN, hcell⟩ := zs_arr hw hs hc.1
        obtain ⟨cj, hj⟩ := Option.isSome_iff_exists.mp hc.2.1
        obtain ⟨r0, hr1, hr2⟩ := zAc_ok hj
        exact W.aald (ty := .object r0.1) hx hb hcell (by have := hA hN; rw [hr2] at this; exact this _ _) rfl (fun q => by cases q) (by rw [arrV_size]; exact hc.2.2) (arrV_read _ _ (Nat.not_le.mp fun q => hc.2.2 (Or.inr q))) rfl rfl hd (kk H locs hw hS0)
      · cases h
    · cases h
  -- iastore
  · split at h
    · rename_i hs
      split at h
      · rename_i hc; cases h
        obtain ⟨hN, hcell⟩ := zs_arr hw hs hc.1
        refine W.iast hx hb hcell (by have := hA hN; rw [hc.2.1] at this; exact this _ _) (fun q => by cases q) (by rw [arrV_size]; exact hc.2.2) rfl rfl hd fun H1 e1 z oq => ?_
        obtain ⟨g1, g2⟩ := zs_ast hw hS0 hs hc.1 e1 z oq
        exact kk H1 _ g1 g2
      · cases h
    · cases h
  -- lastore
  · split at h
    · rename_i hs
      split at h
      · rename_i hc; cases h
        obtain ⟨hN, hcell⟩ := zs_arr hw hs hc.1
        refine W.last hx hb hcell (by have := hA hN; rw [hc.2.1] at this; exact this _ _) (fun q => by cases q) (by rw [arrV_size]; exact hc.2.2) rfl rfl hd fun H1 e1 z oq => ?_
        obtain ⟨g1, g2⟩ := zs_ast hw hS0 hs hc.1 e1 z oq
        exact kk H1 _ g1 g2
      · cases h
    · cases h
  -- bastore
  · split at h
    · rename_i hs
      split at h
      · rename_i hc; cases h
        obtain ⟨hN, hcell⟩ := zs_arr hw hs hc.1
        refine W.zast hx hb hcell (by have := hA hN; rw [hc.2.1] at this; exact this _ _) (fun q => by cases q) (by rw [arrV_size]; exact hc.2.2.2) rfl rfl hd fun H1 e1 z oq => ?_
        rw [hc.2.2.1] at e1
        obtain ⟨g1, g2⟩ := zs_ast hw hS0 hs hc.1 e1 z oq
        exact kk H1 _ g1 g2
      · cases h
    · cases h
  -- aastore
  · split at h
    · rename_i hs hv
      split at h
      · rename_i hc; cases h
        obtain ⟨hN, hcell⟩ := zs_arr hw hs hc.1
        obtain ⟨r0, hr1, hr2⟩ := zAc_ok hc.2.1
        rcases (hw.2.2 _ _ hv).2 with ⟨-, r', h1, cellV, q1, q2, q3, -⟩ | ⟨h0, -⟩
        · have hcls := (hK.1 _ r0 hr1).2
          have hra := (hK.2 _ _ (zTys_at dA hN)).2
          rw [hr2] at hra
          obtain ⟨kA, comp, k1, k2, k3, -⟩ := hra
          have hcomp : comp = D.1 _ := Option.some.inj (k3.symm.trans hcls.1)
          subst hcomp
          obtain ⟨kC, hkC, -⟩ := hcls.2
          refine W.aast hx hb hcell (fun q h => by cases h) (fun h => by cases h) k1 k2 rfl hkC ⟨fun q => hc.2.2 (Or.inl q), by rw [arrV_size]; exact Nat.not_le.mp fun q => hc.2.2 (Or.inr q)⟩ q1 (fun q h => by rw [q3] at h; cases h) (by rw [q2]; exact hkC) (by rw [q2]; exact va_assign hcls) rfl rfl hd fun H1 e1 z oq => ?_
          obtain ⟨g1, g2⟩ := zs_ast hw hS0 hs hc.1 e1 z oq
          exact kk H1 _ g1 g2
        · exact absurd h0 (Nat.not_le.mpr (zAc_lt hc.2.1))
      · cases h
    · cases h
  -- ldc
  · split at h
    · rename_i hf; cases h; exact lv_ldc hx hb hown (hts _ (zLd_ok hf)) hd (kk H locs hw hS0)
    · cases h
  -- ldc2_w
  · split at h
    · rename_i hf; cases h; exact lv_ldc2 hx hb hown (hts _ (zLd2_ok hf)) hd (kk H locs hw hS0)
    · cases h
  · cases h
/-- a run's end -/
def zQ (D : va_G) (dA : Nat → ClassId) (b0 : Nat) (v : Option Value) (w : zW) : Array Value → State → Outcome → State → Prop := fun _ st o t => o = .returned v ∧ zSt D dA b0 w t.heap ∧ va_F (fun q => b0 ≤ q) st t
def zPc (D : va_G) (dA : Nat → ClassId) (b0 : Nat) (S : zS) (w : zW) (as : List Value) : Array Value → State → Prop := va_Pc as fun U => zSt D dA b0 w U.heap ∧ zCt D dA b0 S U
theorem zCt.moved {u U : State} (hW : u.WarmedH U.vm) (hh : U.heap[S.1]? = u.heap[S.1]?) (hz : b0 ≤ U.heap.size) (h : zCt D dA b0 S u) : zCt D dA b0 S U :=
  ⟨zNst_warm hW h.1, va_K.moved hW.alike h.2.1, (h.2.2.1.moved hW.alike).kept hh, h.2.2.2.1, hz⟩
theorem zPc.blind {w : zW} {as : List Value} : FrameBlind (zPc D dA b0 S w as) := by
  intro a U g mk ⟨h1, h2, h3, h4, h5, h6, h7⟩
  exact ⟨h1, h2, zNst_same (s := U) (U := U.calling g mk a) rfl h3, va_K.moved (u := U) (U := U.calling g mk a) (Vm.Alike.refl U.vm) h4, va_X.moved (u := U) (U := U.calling g mk a) (Vm.Alike.refl U.vm) h5, h6, h7⟩
theorem z_after {v : Option Value} {w' : zW} {as : Array Value} {st0 rest : List Value} {mc ms : Nat} (hr : va_Run p l e R s m args below meth c H locs cells slots mc ms (F0 m pc ls st0) rest (zQ D dA b0 v w' as) (fun q => b0 ≤ q)) (hS : va_S (fun q => b0 ≤ q) s.heap H locs)
    (kk : ∀ (H1 : Heap) (locs1 : List Loc), zSt D dA b0 w' H1 → va_S (fun q => b0 ≤ q) s.heap H1 locs1 → W p l e R s m args below meth c H1 locs1 (cells + mc) (slots + ms) Q (F0 m (pc + 3) ls (v.toList ++ rest))) : W p l e R s m args below meth c H locs cells slots Q (F0 m pc ls st0) := by
  intro T hT X
  obtain ⟨v1, st₀, t, T', L, h0, X', hL, e1, e2, ⟨hv, hz, hF⟩, st⟩ := hr T hT X
  cases hv
  obtain ⟨hF1, hF2⟩ := hF
  rw [h0] at hF1 hF2
  obtain ⟨t2, a1, b1⟩ := kk T'.heap (locs ++ L) (by rw [e1]; exact hz)
    ⟨Nat.le_trans hS.1 (by rw [e1]; exact hF1), fun q h1 h2 => by rw [e1, hF2 q (Nat.lt_of_lt_of_le h1 hS.1) h2]; exact hS.2.1 q h1 h2, fun q hq => by
      rcases List.mem_append.mp hq with h | h
      · exact hS.2.2 q h
      · exact hL q h⟩ T' rfl X'
  exact ⟨t2, st t2 a1, b1⟩
end ZSIM3
