/-! the rules of the pure machine: one instruction at a time, goal first -/
theorem zgo_mono {S : zS} : ∀ (n : Nat) {d mi pc : Nat} {L : List (Nat × Value)} {st : List Value} {w : zW} {r : Option Value × zW}, zgo S n d mi pc L st w = some r → zgo S (n + 1) d mi pc L st w = some r := by
  intro n
  induction n with
  | zero => intro d mi pc L st w r h; simp [zgo] at h
  | succ n ih =>
    intro d mi pc L st w r h
    rw [zgo] at h ⊢
    cases hd : decode (zCode mi) pc with
    | error x => rw [hd] at h; simp at h
    | ok q =>
      obtain ⟨ins, len⟩ := q
      rw [hd] at h
      dsimp only at h ⊢
      cases hz : zst S mi ins len pc L st w with
      | none => rw [hz] at h; simp at h
      | some q =>
        rw [hz] at h
        obtain ⟨pc', L', st', w'⟩ | ⟨mj, as, rest⟩ | v := q
        · exact ih h
        · dsimp only at h ⊢
          cases d with
          | zero => simp at h
          | succ d =>
            dsimp only at h ⊢
            cases hc : zgo S n d mj 0 (lv_args 0 as) [] w with
            | none => rw [hc] at h; simp at h
            | some q =>
              obtain ⟨v, w'⟩ := q
              rw [hc] at h
              rw [ih hc]
              exact ih h
        · exact h
theorem zgo_le {S : zS} {n m d mi pc : Nat} {L : List (Nat × Value)} {st : List Value} {w : zW} {r : Option Value × zW} (h : zgo S n d mi pc L st w = some r) (hm : n ≤ m) : zgo S m d mi pc L st w = some r := by
  induction hm with
  | refl => exact h
  | step _ ih => exact zgo_mono _ ih
section ZK
variable {S : zS} {d mi pc len : Nat} {ins : Jvm.ClassFile.Instr} {L : List (Nat × Value)} {st : List Value} {w : zW} {Post : Option Value → zW → Prop}
theorem zk_next {pc' : Nat} {L' : List (Nat × Value)} {st' : List Value} {w' : zW} (hd : decode (zCode mi) pc = .ok (ins, len)) (hz : zst S mi ins len pc L st w = some (.inl (pc', L', st', w'))) (k : zOk S d mi pc' L' st' w' Post) : zOk S d mi pc L st w Post := by
  obtain ⟨n, v, wf, h, hp⟩ := k
  exact ⟨n + 1, v, wf, by rw [zgo, hd]; dsimp only; rw [hz]; exact h, hp⟩
theorem zk_ret {v : Option Value} (hd : decode (zCode mi) pc = .ok (ins, len)) (hg : zgr ins = 5) (hz : zrt mi ins len st = some v) (k : Post v w) : zOk S d mi pc L st w Post :=
  ⟨1, v, w, by rw [zgo, hd]; simp only [zst, hg, hz, Option.map_some], k⟩
theorem zk_call {mj : Nat} {as rest : List Value} {Pc : Option Value → zW → Prop} (hd : decode (zCode mi) pc = .ok (ins, len)) (hg : zgr ins = 4) (hz : zcl mi ins len st w = some (mj, as, rest)) (hc : zOk S d mj 0 (lv_args 0 as) [] w Pc)
    (k : ∀ v w', Pc v w' → zOk S (d + 1) mi (pc + 3) L (v.toList ++ rest) w' Post) : zOk S (d + 1) mi pc L st w Post := by
  obtain ⟨n, v, wf, h, hp⟩ := hc
  obtain ⟨n2, v2, wf2, h2, hp2⟩ := k v wf hp
  refine ⟨max n n2 + 1, v2, wf2, ?_, hp2⟩
  rw [zgo, hd]
  simp only [zst, hg, hz, Option.map_some]
  rw [zgo_le h (Nat.le_max_left n n2)]
  exact zgo_le h2 (Nat.le_max_right n n2)
theorem zk_alu {st' : List Value} (hd : decode (zCode mi) pc = .ok (ins, len)) (hg : zgr ins = 0) (ha : zalu ins len st = some st') (k : zOk S d mi (pc + len) L st' w Post) : zOk S d mi pc L st w Post :=
  zk_next hd (by simp only [zst, hg, ha, Option.map_some]) k
theorem zk_loc {L' : List (Nat × Value)} {st' : List Value} (hd : decode (zCode mi) pc = .ok (ins, len)) (hg : zgr ins = 1) (ha : zloc (zML mi) ins len L st = some (L', st')) (k : zOk S d mi (pc + len) L' st' w Post) : zOk S d mi pc L st w Post :=
  zk_next hd (by simp only [zst, hg, ha, Option.map_some]) k
theorem zk_br {pc' : Nat} {st' : List Value} (hd : decode (zCode mi) pc = .ok (ins, len)) (hg : zgr ins = 2) (ha : zbr ins len pc st = some (pc', st')) (k : zOk S d mi pc' L st' w Post) : zOk S d mi pc L st w Post :=
  zk_next hd (by simp only [zst, hg, ha, Option.map_some]) k
theorem zk_hp {st' : List Value} {w' : zW} (hd : decode (zCode mi) pc = .ok (ins, len)) (hg : zgr ins = 3) (ha : zhp S mi ins len st w = some (st', w')) (k : zOk S d mi (pc + len) L st' w' Post) : zOk S d mi pc L st w Post :=
  zk_next hd (by simp only [zst, hg, ha, Option.map_some]) k
/-- a branch of two ways -/
theorem zk_if {off : Int} {tgt : Nat} {r : List Value} {b : Bool} (hd : decode (zCode mi) pc = .ok (ins, len)) (hg : zgr ins = 2) (ha : zbr ins len pc st = zbc pc off r b) (ht : (pc : Int) + off = (tgt : Int)) (kt : b = true → zOk S d mi tgt L r w Post) (kf : b = false → zOk S d mi (pc + 3) L r w Post) : zOk S d mi pc L st w Post := by
  have h0 : 0 ≤ (pc : Int) + off := by omega
  have h1 : ztg pc off = tgt := by unfold ztg; omega
  cases b with
  | true => exact zk_br hd hg (by rw [ha, zbc, if_pos h0, if_pos rfl, h1]) (kt rfl)
  | false => exact zk_br hd hg (by rw [ha, zbc, if_pos h0, if_neg (by decide)]) (kf rfl)
/-- a jump -/
theorem zk_goto {off : Int} {tgt : Nat} {r : List Value} (hd : decode (zCode mi) pc = .ok (ins, len)) (hg : zgr ins = 2) (ha : zbr ins len pc st = zbc pc off r true) (ht : (pc : Int) + off = (tgt : Int)) (kt : zOk S d mi tgt L r w Post) : zOk S d mi pc L st w Post := by
  have h0 : 0 ≤ (pc : Int) + off := by omega
  have h1 : ztg pc off = tgt := by unfold ztg; omega
  exact zk_br hd hg (by rw [ha, zbc, if_pos h0, if_pos rfl, h1]) kt
/-- a branch that isn't taken -/
theorem zk_stay {off : Int} {tgt : Nat} {r : List Value} (hd : decode (zCode mi) pc = .ok (ins, len)) (hg : zgr ins = 2) (ha : zbr ins len pc st = zbc pc off r false) (ht : (pc : Int) + off = (tgt : Int)) (kf : zOk S d mi (pc + 3) L r w Post) : zOk S d mi pc L st w Post := by
  have h0 : 0 ≤ (pc : Int) + off := by omega
  exact zk_br hd hg (by rw [ha, zbc, if_pos h0, if_neg (by decide)]) kf
theorem zk_get {idx a ci k N : Nat} {r : List Value} {v : Value} (hd : decode (zCode mi) pc = .ok (.getfield idx, 3)) (hf : zFld (zOC mi) idx = some (ci, k)) (hs : w.2.1 a = some (ci, N)) (hv : w.2.2 a k = v) (kk : zOk S d mi (pc + 3) L (v :: r) w Post) : zOk S d mi pc L (.ref a :: r) w Post :=
  zk_hp hd rfl (by simp [zhp, hf, hs, hv]) kk
theorem zk_put {idx a ci k N : Nat} {r : List Value} {v : Value} (hd : decode (zCode mi) pc = .ok (.putfield idx, 3)) (hf : zFld (zOC mi) idx = some (ci, k)) (hs : w.2.1 a = some (ci, N)) (hp : zPf mi ci k v) (kk : zOk S d mi (pc + 3) L r (zset w a k v) Post) : zOk S d mi pc L (v :: .ref a :: r) w Post :=
  zk_hp hd rfl (by simp only [zhp, hf, hs]; rw [if_pos ⟨trivial, hp⟩]) kk
theorem zk_new {idx ci : Nat} {r : List Value} (hd : decode (zCode mi) pc = .ok (.new idx, 3)) (hf : zNew (zOC mi) idx = some ci) (kk : zOk S d mi (pc + 3) L (.ref w.1.1 :: r) (zpush w ci (zN ci) (zBl ci)) Post) : zOk S d mi pc L r w Post :=
  zk_hp hd rfl (by simp only [zhp, hf]) kk
theorem zk_newa {t : Jvm.ClassFile.ArrayType} {n : Int32} {k N : Nat} {r : List Value} (hd : decode (zCode mi) pc = .ok (.newarray t, 2)) (hf : zNA t = some k) (hn : ¬ n < 0) (hN : n.toNatClampNeg = N) (hm : N ≤ 60000000) (kk : zOk S d mi (pc + 2) L (.ref w.1.1 :: r) (zpush w (100 + k) N (fun _ => defaultValue (zAK k))) Post) : zOk S d mi pc L (.int n :: r) w Post := by
  subst hN
  exact zk_hp hd rfl (by simp only [zhp, hf]; rw [if_pos ⟨hn, hm⟩]) kk
theorem zk_newq {idx k N : Nat} {n : Int32} {r : List Value} (hd : decode (zCode mi) pc = .ok (.anewarray idx, 3)) (hf : zAN (zOC mi) idx = some k) (hn : ¬ n < 0) (hN : n.toNatClampNeg = N) (hm : N ≤ 60000000) (kk : zOk S d mi (pc + 3) L (.ref w.1.1 :: r) (zpush w (100 + k) N (fun _ => .null)) Post) : zOk S d mi pc L (.int n :: r) w Post := by
  subst hN
  exact zk_hp hd rfl (by simp only [zhp, hf]; rw [if_pos ⟨hn, hm⟩]) kk
theorem zk_len {a c n : Nat} {r : List Value} (hd : decode (zCode mi) pc = .ok (.arraylength, 1)) (hs : w.2.1 a = some (c, n)) (hc : 100 ≤ c) (kk : zOk S d mi (pc + 1) L (.int (Int32.ofNat n) :: r) w Post) : zOk S d mi pc L (.ref a :: r) w Post :=
  zk_hp hd rfl (by simp only [zhp, hs]; rw [if_pos hc]) kk
theorem zk_lenS {r : List Value} (hd : decode (zCode mi) pc = .ok (.arraylength, 1)) (hs : w.2.1 S.1 = none) (kk : zOk S d mi (pc + 1) L (.int (Int32.ofNat S.2.1) :: r) w Post) : zOk S d mi pc L (.ref S.1 :: r) w Post :=
  zk_hp hd rfl (by simp only [zhp, hs]; rw [if_pos trivial]) kk
theorem zk_ildS {i : Int32} {r : List Value} (hd : decode (zCode mi) pc = .ok (.iaload, 1)) (hs : w.2.1 S.1 = none) (hi : zix i S.2.1) (kk : zOk S d mi (pc + 1) L (.int (S.2.2 i.toNatClampNeg) :: r) w Post) : zOk S d mi pc L (.int i :: .ref S.1 :: r) w Post :=
  zk_hp hd rfl (by simp only [zhp, hs]; rw [if_pos ⟨trivial, hi⟩]) kk
theorem zk_ild {a k n : Nat} {i : Int32} {v : Value} {r : List Value} (hd : decode (zCode mi) pc = .ok (.iaload, 1)) (hs : w.2.1 a = some (100 + k, n)) (ht : zAK k = .int) (hi : zix i n) (hv : w.2.2 a i.toNatClampNeg = v) (kk : zOk S d mi (pc + 1) L (v :: r) w Post) : zOk S d mi pc L (.int i :: .ref a :: r) w Post :=
  zk_hp hd rfl (by simp only [zhp, hs, hv]; rw [if_pos ⟨by omega, by rw [Nat.add_sub_cancel_left]; exact ht, hi⟩]) kk
theorem zk_lld {a k n : Nat} {i : Int32} {v : Value} {r : List Value} (hd : decode (zCode mi) pc = .ok (.laload, 1)) (hs : w.2.1 a = some (100 + k, n)) (ht : zAK k = .long) (hi : zix i n) (hv : w.2.2 a i.toNatClampNeg = v) (kk : zOk S d mi (pc + 1) L (v :: r) w Post) : zOk S d mi pc L (.int i :: .ref a :: r) w Post :=
  zk_hp hd rfl (by simp only [zhp, hs, hv]; rw [if_pos ⟨by omega, by rw [Nat.add_sub_cancel_left]; exact ht, hi⟩]) kk
theorem zk_zld {a k n : Nat} {i : Int32} {v : Value} {r : List Value} (hd : decode (zCode mi) pc = .ok (.baload, 1)) (hs : w.2.1 a = some (100 + k, n)) (ht : zAK k = .boolean) (hi : zix i n) (hv : w.2.2 a i.toNatClampNeg = v) (kk : zOk S d mi (pc + 1) L (v :: r) w Post) : zOk S d mi pc L (.int i :: .ref a :: r) w Post :=
  zk_hp hd rfl (by simp only [zhp, hs, hv]; rw [if_pos ⟨by omega, by rw [Nat.add_sub_cancel_left]; exact ht, hi⟩]) kk
theorem zk_ald {a k n : Nat} {i : Int32} {v : Value} {r : List Value} (hd : decode (zCode mi) pc = .ok (.aaload, 1)) (hs : w.2.1 a = some (100 + k, n)) (ht : (zAc k).isSome = true) (hi : zix i n) (hv : w.2.2 a i.toNatClampNeg = v) (kk : zOk S d mi (pc + 1) L (v :: r) w Post) : zOk S d mi pc L (.int i :: .ref a :: r) w Post :=
  zk_hp hd rfl (by simp only [zhp, hs, hv]; rw [if_pos ⟨by omega, by rw [Nat.add_sub_cancel_left]; exact ht, hi⟩]) kk
theorem zk_ist {a k n : Nat} {i x : Int32} {r : List Value} (hd : decode (zCode mi) pc = .ok (.iastore, 1)) (hs : w.2.1 a = some (100 + k, n)) (ht : zAK k = .int) (hi : zix i n) (kk : zOk S d mi (pc + 1) L r (zset w a i.toNatClampNeg (.int x)) Post) : zOk S d mi pc L (.int x :: .int i :: .ref a :: r) w Post :=
  zk_hp hd rfl (by simp only [zhp, hs]; rw [if_pos ⟨by omega, by rw [Nat.add_sub_cancel_left]; exact ht, hi⟩]) kk
theorem zk_lst {a k n : Nat} {i : Int32} {x : Int64} {r : List Value} (hd : decode (zCode mi) pc = .ok (.lastore, 1)) (hs : w.2.1 a = some (100 + k, n)) (ht : zAK k = .long) (hi : zix i n) (kk : zOk S d mi (pc + 1) L r (zset w a i.toNatClampNeg (.long x)) Post) : zOk S d mi pc L (.long x :: .int i :: .ref a :: r) w Post :=
  zk_hp hd rfl (by simp only [zhp, hs]; rw [if_pos ⟨by omega, by rw [Nat.add_sub_cancel_left]; exact ht, hi⟩]) kk
theorem zk_zst {a k n : Nat} {i x : Int32} {r : List Value} (hd : decode (zCode mi) pc = .ok (.bastore, 1)) (hs : w.2.1 a = some (100 + k, n)) (ht : zAK k = .boolean) (hx : narrow .boolean (.int x) = .int x) (hi : zix i n) (kk : zOk S d mi (pc + 1) L r (zset w a i.toNatClampNeg (.int x)) Post) : zOk S d mi pc L (.int x :: .int i :: .ref a :: r) w Post :=
  zk_hp hd rfl (by simp only [zhp, hs]; rw [if_pos ⟨by omega, by rw [Nat.add_sub_cancel_left]; exact ht, hx, hi⟩]) kk
theorem zk_ast {a b k n cj N : Nat} {i : Int32} {r : List Value} (hd : decode (zCode mi) pc = .ok (.aastore, 1)) (hs : w.2.1 a = some (100 + k, n)) (hb : w.2.1 b = some (cj, N)) (ht : zAc k = some cj) (hi : zix i n) (kk : zOk S d mi (pc + 1) L r (zset w a i.toNatClampNeg (.ref b)) Post) : zOk S d mi pc L (.ref b :: .int i :: .ref a :: r) w Post :=
  zk_hp hd rfl (by simp only [zhp, hs, hb]; rw [if_pos ⟨by omega, by rw [Nat.add_sub_cancel_left]; exact ht, hi⟩]) kk
theorem zOk.mono {Q : Option Value → zW → Prop} (h : zOk S d mi pc L st w Post) (hq : ∀ v w', Post v w' → Q v w') : zOk S d mi pc L st w Q := by
  obtain ⟨n, v, wf, h1, h2⟩ := h
  exact ⟨n, v, wf, h1, hq v wf h2⟩
end ZK
theorem zgo_deep {S : zS} : ∀ (n : Nat) {d mi pc : Nat} {L : List (Nat × Value)} {st : List Value} {w : zW} {r : Option Value × zW}, zgo S n d mi pc L st w = some r → zgo S n (d + 1) mi pc L st w = some r := by
  intro n
  induction n with
  | zero => intro d mi pc L st w r h; simp [zgo] at h
  | succ n ih =>
    intro d mi pc L st w r h
    rw [zgo] at h ⊢
    cases hd : decode (zCode mi) pc with
    | error x => rw [hd] at h; simp at h
    | ok q =>
      obtain ⟨ins, len⟩ := q
      rw [hd] at h
      dsimp only at h ⊢
      cases hz : zst S mi ins len pc L st w with
      | none => rw [hz] at h; simp at h
      | some q =>
        rw [hz] at h
        obtain ⟨pc', L', st', w'⟩ | ⟨mj, as, rest⟩ | v := q
        · exact ih h
        · dsimp only at h ⊢
          cases d with
          | zero => simp at h
          | succ d =>
            dsimp only at h ⊢
            cases hc : zgo S n d mj 0 (lv_args 0 as) [] w with
            | none => rw [hc] at h; simp at h
            | some q =>
              obtain ⟨v, w'⟩ := q
              rw [hc] at h
              rw [ih hc]
              exact ih h
        · exact h
theorem zOk.deep {S : zS} {d d2 mi pc : Nat} {L : List (Nat × Value)} {st : List Value} {w : zW} {Post : Option Value → zW → Prop} (h : zOk S d mi pc L st w Post) (hd : d ≤ d2) : zOk S d2 mi pc L st w Post := by
  obtain ⟨n, v, wf, h1, h2⟩ := h
  refine ⟨n, v, wf, ?_, h2⟩
  induction hd with
  | refl => exact h1
  | step _ ih => exact zgo_deep n ih
