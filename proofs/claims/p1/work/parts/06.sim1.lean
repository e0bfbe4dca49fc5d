/-! the pure machine's steps are the machine's: stack, locals, branches -/
theorem zlk_mem {i : Nat} {v : Value} : ∀ {L : List (Nat × Value)}, zlk i L = some v → (i, v) ∈ L := by
  intro L
  induction L with
  | nil => intro h; simp [zlk] at h
  | cons q t ih =>
    intro h
    obtain ⟨j, u⟩ := q
    rw [zlk] at h
    by_cases hj : j = i
    · rw [if_pos hj] at h
      cases h
      subst hj
      exact List.mem_cons_self
    · rw [if_neg hj] at h
      exact List.mem_cons_of_mem _ (ih h)
theorem zins_mem {i : Nat} {v : Value} {x : Nat × Value} : ∀ {L : List (Nat × Value)}, x ∈ zins i v L → x ∈ (i, v) :: L := by
  intro L
  induction L with
  | nil => exact fun h => h
  | cons q t ih =>
    intro h
    unfold zins at h
    cases hb : Nat.ble i q.1 with
    | true => rw [hb] at h; exact h
    | false =>
      rw [hb] at h
      rcases List.mem_cons.mp h with h | h
      · exact List.mem_cons_of_mem _ (List.mem_cons.mpr (Or.inl h))
      · rcases List.mem_cons.mp (ih h) with h | h
        · exact List.mem_cons.mpr (Or.inl h)
        · exact List.mem_cons_of_mem _ (List.mem_cons_of_mem _ h)
theorem zins_has {ls : Array Slot} {nL i : Nat} {v : Value} {L : List (Nat × Value)} (h : lv_has ls nL ((i, v) :: L)) : lv_has ls nL (zins i v L) := ⟨h.1, h.2.1, fun q hq => h.2.2 q (zins_mem hq)⟩
theorem zbc_inv {pc : Nat} {off : Int} {r : List Value} {b : Bool} {pc' : Nat} {st' : List Value} (h : zbc pc off r b = some (pc', st')) : (pc : Int) + off = (ztg pc off : Int) ∧ r = st' ∧ (if b = true then ztg pc off else pc + 3) = pc' := by
  unfold zbc at h
  split at h
  · rename_i h0
    cases h
    exact ⟨by unfold ztg; omega, rfl, rfl⟩
  · cases h
section ZSIM1
variable {p : Program} {l : Launch} {e : Env} {R : Room} {s : State} {m : MethodId} {args : Array Value} {below : List Frame} {meth : Method} {c : Code} {H : Heap} {locs : List Loc} {cells slots : Nat} {Q : State → Prop}
variable {cc : ByteArray} {pc len : Nat} {ls : Array Slot} {ins : Jvm.ClassFile.Instr}
set_option maxHeartbeats 4000000 in
theorem zs_alu {st st' : List Value} (hx : p.tables.exec = Jvm.exec) (hb : c.code = cc) (hd : decode cc pc = .ok (ins, len)) (h : zalu ins len st = some st')
    (k : W p l e R s m args below meth c H locs cells slots Q (F0 m (pc + len) ls st')) : W p l e R s m args below meth c H locs cells slots Q (F0 m pc ls st) := by
  unfold zalu at h
  split at h
  · cases h; exact lv_iconst hx hb hd rfl k
  · cases h; exact lv_bipush hx hb hd rfl k
  · cases h; exact lv_sipush hx hb hd rfl k
  · cases h; exact lv_lconst hx hb hd rfl k
  · cases h; exact lv_null hx hb hd k
  · cases h; exact lv_iadd hx hb hd k
  · cases h; exact lv_isub hx hb hd k
  · cases h; exact lv_imul hx hb hd k
  · split at h
    · cases h
    · cases h; exact lv_idiv hx hb hd (by assumption) k
  · split at h
    · cases h
    · cases h; exact lv_irem hx hb hd (by assumption) k
  · cases h; exact lv_ineg hx hb hd k
  · cases h; exact lv_iand hx hb hd k
  · cases h; exact lv_ior hx hb hd k
  · cases h; exact lv_ixor hx hb hd k
  · cases h; exact lv_ishl hx hb hd k
  · cases h; exact lv_ishr hx hb hd k
  · cases h; exact lv_iushr hx hb hd rfl k
  · cases h; exact lv_ladd hx hb hd k
  · cases h; exact lv_lsub hx hb hd k
  · cases h; exact lv_lmul hx hb hd k
  · split at h
    · cases h
    · cases h; exact lv_ldiv hx hb hd (by assumption) k
  · split at h
    · cases h
    · cases h; exact lv_lrem hx hb hd (by assumption) k
  · cases h; exact lv_lneg hx hb hd k
  · cases h; exact lv_land hx hb hd k
  · cases h; exact lv_lor hx hb hd k
  · cases h; exact lv_lxor hx hb hd k
  · cases h; exact lv_lshl hx hb hd rfl k
  · cases h; exact lv_lshr hx hb hd rfl k
  · cases h; exact lv_lushr hx hb hd rfl k
  · cases h; exact lv_i2l hx hb hd rfl k
  · cases h; exact lv_l2i hx hb hd rfl k
  · cases h; exact W.lcmp hx hb hd k
  · split at h
    · cases h; exact lv_dup hx hb hd (by assumption) k
    · cases h
  · split at h
    · cases h; exact lv_pop hx hb hd (by assumption) k
    · cases h
  · split at h
    · rename_i hc; cases h; exact lv_dup_x1 hx hb hd hc.1 hc.2 k
    · cases h
  · split at h
    · rename_i hc; cases h; exact lv_dup_x2 hx hb hd hc.1 hc.2.1 hc.2.2 k
    · cases h
  · split at h
    · rename_i hc; cases h; exact lv_dup2_11 hx hb hd hc.1 hc.2 k
    · cases h
  · cases h
set_option maxHeartbeats 4000000 in
theorem zs_loc {nL : Nat} {L L' : List (Nat × Value)} {st st' : List Value} (hx : p.tables.exec = Jvm.exec) (hb : c.code = cc) (hd : decode cc pc = .ok (ins, len)) (hl : lv_has ls nL L) (h : zloc nL ins len L st = some (L', st'))
    (k : ∀ ls' : Array Slot, lv_has ls' nL L' → W p l e R s m args below meth c H locs cells slots Q (F0 m (pc + len) ls' st')) : W p l e R s m args below meth c H locs cells slots Q (F0 m pc ls st) := by
  have at' : ∀ {i : Nat} {v : Value}, zlk i L = some v → ls[i]? = some (.val v) := fun h => hl.2.2 _ (zlk_mem h)
  unfold zloc at h
  split at h
  · split at h
    · rename_i hz; cases h; exact lv_iload_n hx hb hd rfl (at' hz) (k ls hl)
    · cases h
  · split at h
    · rename_i hz; cases h; exact lv_iload hx hb hd (at' hz) (k ls hl)
    · cases h
  · split at h
    · rename_i hz; cases h; exact lv_lload_n hx hb hd rfl (at' hz) (k ls hl)
    · cases h
  · split at h
    · rename_i hz; cases h; exact lv_lload hx hb hd (at' hz) (k ls hl)
    · cases h
  · split at h
    · rename_i hz; cases h; exact lv_aload_n hx hb hd rfl (at' hz) (k ls hl)
    · rename_i hz; cases h; exact lv_aload_nN hx hb hd rfl (at' hz) (k ls hl)
    · cases h
  · split at h
    · rename_i hz; cases h; exact lv_aload hx hb hd (at' hz) (k ls hl)
    · rename_i hz; cases h; exact lv_aloadN hx hb hd (at' hz) (k ls hl)
    · cases h
  · split at h
    · rename_i hn; cases h; exact lv_istore_n hx hb hd rfl hl hn rfl (fun ls' h' => k ls' (zins_has h'))
    · cases h
  · split at h
    · rename_i hn; cases h; exact lv_istore hx hb hd hl hn rfl (fun ls' h' => k ls' (zins_has h'))
    · cases h
  · split at h
    · rename_i hn; cases h; exact lv_lstore_n hx hb hd rfl hl hn rfl (fun ls' h' => k ls' (zins_has h'))
    · cases h
  · split at h
    · rename_i hn; cases h; exact lv_lstore hx hb hd hl hn rfl (fun ls' h' => k ls' (zins_has h'))
    · cases h
  · split at h
    · rename_i hn; cases h; exact lv_astore_n hx hb hd rfl hl hn rfl (fun ls' h' => k ls' (zins_has h'))
    · cases h
  · split at h
    · rename_i hn; cases h; exact lv_astore_nN hx hb hd rfl hl hn rfl (fun ls' h' => k ls' (zins_has h'))
    · cases h
  · split at h
    · rename_i hn; cases h; exact lv_astore hx hb hd hl hn rfl (fun ls' h' => k ls' (zins_has h'))
    · cases h
  · split at h
    · rename_i hn; cases h; exact lv_astoreN hx hb hd hl hn rfl (fun ls' h' => k ls' (zins_has h'))
    · cases h
  · split at h
    · rename_i hz
      split at h
      · rename_i hn
        cases h
        obtain ⟨j, hj⟩ := List.getElem?_of_mem (zlk_mem hz)
        exact lv_iinc hx hb hd hl hj rfl hn rfl (fun ls' h' => k ls' (zins_has h'))
      · cases h
    · cases h
  · cases h
set_option maxHeartbeats 4000000 in
theorem zs_br {st st' : List Value} {pc' : Nat} (hx : p.tables.exec = Jvm.exec) (hb : c.code = cc) (hd : decode cc pc = .ok (ins, len)) (h : zbr ins len pc st = some (pc', st'))
    (k : W p l e R s m args below meth c H locs cells slots Q (F0 m pc' ls st')) : W p l e R s m args below meth c H locs cells slots Q (F0 m pc ls st) := by
  unfold zbr at h
  split at h
  · obtain ⟨ht, rfl, rfl⟩ := zbc_inv h
    exact lv_if_eq hx hb hd ht (fun q => by simpa [q] using k) (fun q => by simpa [q] using k)
  · obtain ⟨ht, rfl, rfl⟩ := zbc_inv h
    exact lv_if_ne hx hb hd ht (fun q => by simpa [q] using k) (fun q => by simpa [q] using k)
  · obtain ⟨ht, rfl, rfl⟩ := zbc_inv h
    exact lv_if_lt hx hb hd ht (fun q => by simpa only [q, decide_true, if_true] using k) (fun q => by simpa only [q, decide_false, Bool.false_eq_true, if_false] using k)
  · obtain ⟨ht, rfl, rfl⟩ := zbc_inv h
    exact lv_if_ge hx hb hd ht (fun q => by simpa only [q, decide_true, if_true] using k) (fun q => by simpa only [q, decide_false, Bool.false_eq_true, if_false] using k)
  · obtain ⟨ht, rfl, rfl⟩ := zbc_inv h
    exact lv_if_gt hx hb hd ht (fun q => by simpa only [q, decide_true, if_true] using k) (fun q => by simpa only [q, decide_false, Bool.false_eq_true, if_false] using k)
  · obtain ⟨ht, rfl, rfl⟩ := zbc_inv h
    exact lv_if_le hx hb hd ht (fun q => by simpa only [q, decide_true, if_true] using k) (fun q => by simpa only [q, decide_false, Bool.false_eq_true, if_false] using k)
  · obtain ⟨ht, rfl, rfl⟩ := zbc_inv h
    exact lv_icmp_eq hx hb hd ht (fun q => by simpa [q] using k) (fun q => by simpa [q] using k)
  · obtain ⟨ht, rfl, rfl⟩ := zbc_inv h
    exact lv_icmp_ne hx hb hd ht (fun q => by simpa [q] using k) (fun q => by simpa [q] using k)
  · obtain ⟨ht, rfl, rfl⟩ := zbc_inv h
    exact lv_icmp_lt hx hb hd ht (fun q => by simpa only [q, decide_true, if_true] using k) (fun q => by simpa only [q, decide_false, Bool.false_eq_true, if_false] using k)
  · obtain ⟨ht, rfl, rfl⟩ := zbc_inv h
    exact lv_icmp_ge hx hb hd ht (fun q => by simpa only [q, decide_true, if_true] using k) (fun q => by simpa only [q, decide_false, Bool.false_eq_true, if_false] using k)
  · obtain ⟨ht, rfl, rfl⟩ := zbc_inv h
    exact lv_icmp_gt hx hb hd ht (fun q => by simpa only [q, decide_true, if_true] using k) (fun q => by simpa only [q, decide_false, Bool.false_eq_true, if_false] using k)
  · obtain ⟨ht, rfl, rfl⟩ := zbc_inv h
    exact lv_icmp_le hx hb hd ht (fun q => by simpa only [q, decide_true, if_true] using k) (fun q => by simpa only [q, decide_false, Bool.false_eq_true, if_false] using k)
  · obtain ⟨ht, rfl, rfl⟩ := zbc_inv h
    exact lv_ifnull hx hb hd k
  · obtain ⟨ht, rfl, rfl⟩ := zbc_inv h
    exact lv_ifnullN hx hb hd ht k
  · obtain ⟨ht, rfl, rfl⟩ := zbc_inv h
    exact lv_ifnonnull hx hb hd ht k
  · obtain ⟨ht, rfl, rfl⟩ := zbc_inv h
    exact lv_ifnonnullN hx hb hd k
  · obtain ⟨ht, rfl, rfl⟩ := zbc_inv h
    exact lv_goto hx hb hd ht k
  · split at h
    · rename_i hr
      obtain ⟨ht, rfl, rfl⟩ := zbc_inv h
      exact lv_tableOut hx hb hd hr ht k
    · rename_i hr
      split at h
      · rename_i off ho
        obtain ⟨ht, rfl, rfl⟩ := zbc_inv h
        exact lv_tableIn hx hb hd (fun q => hr (Or.inl q)) (fun q => hr (Or.inr q)) ho ht k
      · cases h
  · split at h
    · rename_i hp
      obtain ⟨ht, rfl, rfl⟩ := zbc_inv h
      exact lv_lookup hx hb hd hp rfl ht k
    · cases h
  · cases h
end ZSIM1
