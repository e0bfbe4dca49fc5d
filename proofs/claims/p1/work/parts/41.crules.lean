/-! the rules of the class's state -/
section ZC
variable {S : zS} {d mi pc : Nat} {L : List (Nat × Value)} {r : List Value} {w w0 : zW} {Post : Option Value → zW → Prop} {b0 : Nat} {pa sa : Nat → Nat} {σ : cS}
theorem cW.sh (h : cW b0 w0 pa sa σ w) {o c n : Nat} (hs : (o, c, n) ∈ cShp) : w.2.1 (b0 + o) = some (c, n) := h.1.2.2.1 (o, c, n) hs
theorem cW.shP (h : cW b0 w0 pa sa σ w) {i : Nat} (hi : i < σ.2.1) : w.2.1 (pa i) = some (1, 11) := (h.1.2.2.2.2.1 i hi).1
theorem cW.shS (h : cW b0 w0 pa sa σ w) {i : Nat} (hi : i < σ.2.2.1) : w.2.1 (sa i) = some (3, 13) := (h.1.2.2.2.2.2.1 i hi).1
theorem cW.val (h : cW b0 w0 pa sa σ w) {c k j : Nat} (ok : cOk σ c k j) : w.2.2 (cB b0 pa sa c j) (cP c k j) = cV pa sa σ c k j := h.1.2.2.2.2.2.2.2.2 c k j ok
theorem cOk.P {k j : Nat} (hk : Nat.ble k 10 = true) (hj : j < σ.2.1) : cOk σ 1 k j := Or.inl ⟨rfl, Nat.lt_succ_of_le (Nat.le_of_ble_eq_true hk), hj⟩
theorem cOk.Sp {k j : Nat} (hk : Nat.ble k 12 = true) (hj : j < σ.2.2.1) : cOk σ 3 k j := Or.inr (Or.inl ⟨rfl, Nat.lt_succ_of_le (Nat.le_of_ble_eq_true hk), hj⟩)
theorem cOk.V {c k : Nat} (h : (c, k) ∈ cVal) : cOk σ c k 0 := Or.inr (Or.inr (Or.inl ⟨h, rfl⟩))
theorem cOk.R {c j : Nat} (h : c ∈ cRow) (hj : j < cN c) : cOk σ c 0 j := Or.inr (Or.inr (Or.inr ⟨h, rfl, hj⟩))
/-- a fixed reference; an int of a single object; a reference (the root) -/
theorem zc_gf {idx c k o n t : Nat} (h : cW b0 w0 pa sa σ w) (hd : zI mi pc = some (.getfield idx, 3)) (hf : zFld (zOC mi) idx = some (c, k)) (ho : cO c = o) (hs : (o, c, n) ∈ cShp) (hx : (c, k, t) ∈ cFix) (kk : zOk S d mi (pc + 3) L (.ref (b0 + t) :: r) w Post) : zOk S d mi pc L (.ref (b0 + o) :: r) w Post := by
  subst ho
  exact zi_get hd hf (h.sh hs) (h.1.2.2.2.1 (c, k, t) hx) kk
theorem zc_gv {idx c k o n : Nat} {v : Value} (h : cW b0 w0 pa sa σ w) (hd : zI mi pc = some (.getfield idx, 3)) (hf : zFld (zOC mi) idx = some (c, k)) (ho : cO c = o) (hs : (o, c, n) ∈ cShp) (hx : (c, k) ∈ cVal) (hv : cV pa sa σ c k 0 = v) (kk : zOk S d mi (pc + 3) L (v :: r) w Post) : zOk S d mi pc L (.ref (b0 + o) :: r) w Post := by
  subst ho
  have hc := cO_val _ hx
  have e := h.val (cOk.V hx)
  rw [cB_o hc.2.1 hc.2.2.1, cP_lo hc.2.2.2, hv] at e
  exact zi_get hd hf (h.sh hs) e kk
theorem zc_pv {idx c k o n : Nat} {x : Int32} (h : cW b0 w0 pa sa σ w) (hd : zI mi pc = some (.putfield idx, 3)) (hf : zFld (zOC mi) idx = some (c, k)) (ho : cO c = o) (hs : (o, c, n) ∈ cShp) (hx : (c, k) ∈ cVal) (ht : cT c k = 0) (hp : zPf mi c k (.int x)) (kk : ∀ w2, cW b0 w0 pa sa (cu1 σ c k 0 x) w2 → zOk S d mi (pc + 3) L r w2 Post) : zOk S d mi pc L (.int x :: .ref (b0 + o) :: r) w Post := by
  subst ho
  have hc := cO_val _ hx
  have e := h.put (cOk.V hx) (σ' := cu1 σ c k 0 x) rfl h.2.2 (cV_1 ht) (fun _ _ _ => cV_1n)
  rw [cB_o hc.2.1 hc.2.2.1, cP_lo hc.2.2.2] at e
  exact zi_put hd hf (h.sh hs) hp (kk _ e)
theorem zc_pr {idx c k o n : Nat} {x : Option Nat} (h : cW b0 w0 pa sa σ w) (hd : zI mi pc = some (.putfield idx, 3)) (hf : zFld (zOC mi) idx = some (c, k)) (ho : cO c = o) (hs : (o, c, n) ∈ cShp) (hx : (c, k) ∈ cVal) (ht : cT c k = 3) (hp : zPf mi c k (cr sa x)) (hn : cin x σ.2.2.1 = true) (kk : ∀ w2, cW b0 w0 pa sa (cu3 σ c k 0 x) w2 → zOk S d mi (pc + 3) L r w2 Post) : zOk S d mi pc L (cr sa x :: .ref (b0 + o) :: r) w Post := by
  subst ho
  have hc := cO_val _ hx
  have e := h.put (cOk.V hx) (σ' := cu3 σ c k 0 x) rfl (h.2.2.u3s ht (fun _ => cin_lt hn)) (cV_3s ht) (fun _ _ _ => cV_3n)
  rw [cB_o hc.2.1 hc.2.2.1, cP_lo hc.2.2.2] at e
  exact zi_put hd hf (h.sh hs) hp (kk _ e)
/-- Parts -/
theorem zc_gP {idx k i : Nat} {v : Value} (h : cW b0 w0 pa sa σ w) (hd : zI mi pc = some (.getfield idx, 3)) (hf : zFld (zOC mi) idx = some (1, k)) (hk : Nat.ble k 10 = true) (hi : i < σ.2.1) (hv : cV pa sa σ 1 k i = v) (kk : zOk S d mi (pc + 3) L (v :: r) w Post) : zOk S d mi pc L (.ref (pa i) :: r) w Post :=
  zi_get hd hf (h.shP hi) (by have e := h.val (cOk.P hk hi); rw [hv] at e; exact e) kk
theorem zc_pP1 {idx k i : Nat} {x : Int32} (h : cW b0 w0 pa sa σ w) (hd : zI mi pc = some (.putfield idx, 3)) (hf : zFld (zOC mi) idx = some (1, k)) (hk : Nat.ble k 10 = true) (hi : i < σ.2.1) (ht : cT 1 k = 0) (hp : zPf mi 1 k (.int x)) (kk : ∀ w2, cW b0 w0 pa sa (cu1 σ 1 k i x) w2 → zOk S d mi (pc + 3) L r w2 Post) : zOk S d mi pc L (.int x :: .ref (pa i) :: r) w Post :=
  zi_put hd hf (h.shP hi) hp (kk _ (h.put (cOk.P hk hi) (σ' := cu1 σ 1 k i x) rfl h.2.2 (cV_1 ht) (fun _ _ _ => cV_1n)))
theorem zc_pP2 {idx k i : Nat} {x : Int64} (h : cW b0 w0 pa sa σ w) (hd : zI mi pc = some (.putfield idx, 3)) (hf : zFld (zOC mi) idx = some (1, k)) (hk : Nat.ble k 10 = true) (hi : i < σ.2.1) (ht : cT 1 k = 1) (hp : zPf mi 1 k (.long x)) (kk : ∀ w2, cW b0 w0 pa sa (cu2 σ 1 k i x) w2 → zOk S d mi (pc + 3) L r w2 Post) : zOk S d mi pc L (.long x :: .ref (pa i) :: r) w Post :=
  zi_put hd hf (h.shP hi) hp (kk _ (h.put (cOk.P hk hi) (σ' := cu2 σ 1 k i x) rfl h.2.2 (cV_2 ht) (fun _ _ _ => cV_2n)))
theorem zc_pP3 {idx k i j : Nat} (h : cW b0 w0 pa sa σ w) (hd : zI mi pc = some (.putfield idx, 3)) (hf : zFld (zOC mi) idx = some (1, k)) (hk : Nat.ble k 10 = true) (hi : i < σ.2.1) (ht : cT 1 k = 2) (hp : zPf mi 1 k (.ref (pa j))) (hn : j < σ.2.1) (kk : ∀ w2, cW b0 w0 pa sa (cu3 σ 1 k i (some j)) w2 → zOk S d mi (pc + 3) L r w2 Post) : zOk S d mi pc L (.ref (pa j) :: .ref (pa i) :: r) w Post :=
  zi_put hd hf (h.shP hi) hp (kk _ (h.put (cOk.P hk hi) (σ' := cu3 σ 1 k i (some j)) rfl (h.2.2.u3p ht (fun _ e => by cases e; exact hn)) (cV_3p ht) (fun _ _ _ => cV_3n)))
/-- Spots -/
theorem zc_gS {idx k i : Nat} {v : Value} (h : cW b0 w0 pa sa σ w) (hd : zI mi pc = some (.getfield idx, 3)) (hf : zFld (zOC mi) idx = some (3, k)) (hk : Nat.ble k 12 = true) (hi : i < σ.2.2.1) (hv : cV pa sa σ 3 k i = v) (kk : zOk S d mi (pc + 3) L (v :: r) w Post) : zOk S d mi pc L (.ref (sa i) :: r) w Post :=
  zi_get hd hf (h.shS hi) (by have e := h.val (cOk.Sp hk hi); rw [hv] at e; exact e) kk
theorem zc_pS1 {idx k i : Nat} {x : Int32} (h : cW b0 w0 pa sa σ w) (hd : zI mi pc = some (.putfield idx, 3)) (hf : zFld (zOC mi) idx = some (3, k)) (hk : Nat.ble k 12 = true) (hi : i < σ.2.2.1) (ht : cT 3 k = 0) (hp : zPf mi 3 k (.int x)) (kk : ∀ w2, cW b0 w0 pa sa (cu1 σ 3 k i x) w2 → zOk S d mi (pc + 3) L r w2 Post) : zOk S d mi pc L (.int x :: .ref (sa i) :: r) w Post :=
  zi_put hd hf (h.shS hi) hp (kk _ (h.put (cOk.Sp hk hi) (σ' := cu1 σ 3 k i x) rfl h.2.2 (cV_1 ht) (fun _ _ _ => cV_1n)))
theorem zc_pS2 {idx k i : Nat} {x : Int64} (h : cW b0 w0 pa sa σ w) (hd : zI mi pc = some (.putfield idx, 3)) (hf : zFld (zOC mi) idx = some (3, k)) (hk : Nat.ble k 12 = true) (hi : i < σ.2.2.1) (ht : cT 3 k = 1) (hp : zPf mi 3 k (.long x)) (kk : ∀ w2, cW b0 w0 pa sa (cu2 σ 3 k i x) w2 → zOk S d mi (pc + 3) L r w2 Post) : zOk S d mi pc L (.long x :: .ref (sa i) :: r) w Post :=
  zi_put hd hf (h.shS hi) hp (kk _ (h.put (cOk.Sp hk hi) (σ' := cu2 σ 3 k i x) rfl h.2.2 (cV_2 ht) (fun _ _ _ => cV_2n)))
theorem zc_pS3 {idx k i : Nat} {x : Option Nat} (h : cW b0 w0 pa sa σ w) (hd : zI mi pc = some (.putfield idx, 3)) (hf : zFld (zOC mi) idx = some (3, k)) (hk : Nat.ble k 12 = true) (hi : i < σ.2.2.1) (ht : cT 3 k = 2) (hp : zPf mi 3 k (cr pa x)) (hn : cin x σ.2.1 = true) (kk : ∀ w2, cW b0 w0 pa sa (cu3 σ 3 k i x) w2 → zOk S d mi (pc + 3) L r w2 Post) : zOk S d mi pc L (cr pa x :: .ref (sa i) :: r) w Post :=
  zi_put hd hf (h.shS hi) hp (kk _ (h.put (cOk.Sp hk hi) (σ' := cu3 σ 3 k i x) rfl (h.2.2.u3p ht (fun _ => cin_lt hn)) (cV_3p ht) (fun _ _ _ => cV_3n)))
theorem zc_pS4 {idx k i : Nat} {x : Option Nat} (h : cW b0 w0 pa sa σ w) (hd : zI mi pc = some (.putfield idx, 3)) (hf : zFld (zOC mi) idx = some (3, k)) (hk : Nat.ble k 12 = true) (hi : i < σ.2.2.1) (ht : cT 3 k = 3) (hp : zPf mi 3 k (cr sa x)) (hn : cin x σ.2.2.1 = true) (kk : ∀ w2, cW b0 w0 pa sa (cu3 σ 3 k i x) w2 → zOk S d mi (pc + 3) L r w2 Post) : zOk S d mi pc L (cr sa x :: .ref (sa i) :: r) w Post :=
  zi_put hd hf (h.shS hi) hp (kk _ (h.put (cOk.Sp hk hi) (σ' := cu3 σ 3 k i x) rfl (h.2.2.u3s ht (fun _ => cin_lt hn)) (cV_3s ht) (fun _ _ _ => cV_3n)))
/-- rows -/
theorem cW.row (h : cW b0 w0 pa sa σ w) {c o : Nat} {i : Int32} (hc : c ∈ cRow) (ho : cO c = o) (hi : zix i (cN c)) : w.2.2 (b0 + o) i.toNatClampNeg = cV pa sa σ c 0 i.toNatClampNeg := by
  subst ho
  have q := cO_row c hc
  have e := h.val (cOk.R hc (Nat.not_le.mp fun q => hi (Or.inr q)))
  rw [cB_o q.2.1 q.2.2.1, cP_hi q.2.2.2] at e
  exact e
theorem cW.rput (h : cW b0 w0 pa sa σ w) {σ' : cS} {c o : Nat} {i : Int32} {v : Value} (hc : c ∈ cRow) (ho : cO c = o) (hi : zix i (cN c)) (h2 : σ'.2 = σ.2) (hF : cFine σ') (hv : cV pa sa σ' c 0 i.toNatClampNeg = v) (hn : ∀ c' k' j', ¬ (c' = c ∧ k' = 0 ∧ j' = i.toNatClampNeg) → cV pa sa σ' c' k' j' = cV pa sa σ c' k' j') : cW b0 w0 pa sa σ' (zset w (b0 + o) i.toNatClampNeg v) := by
  subst ho
  have q := cO_row c hc
  have e := h.put (cOk.R hc (Nat.not_le.mp fun q => hi (Or.inr q))) h2 hF hv hn
  rw [cB_o q.2.1 q.2.2.1, cP_hi q.2.2.2] at e
  exact e
theorem zc_len {o c n : Nat} (h : cW b0 w0 pa sa σ w) (hd : zI mi pc = some (.arraylength, 1)) (hs : (o, c, n) ∈ cShp) (hc : Nat.ble 100 c = true) (kk : zOk S d mi (pc + 1) L (.int (Int32.ofNat n) :: r) w Post) : zOk S d mi pc L (.ref (b0 + o) :: r) w Post := zi_len hd (h.sh hs) (Nat.le_of_ble_eq_true hc) kk
theorem zc_ld {c o n : Nat} {i : Int32} (h : cW b0 w0 pa sa σ w) (hd : zI mi pc = some (.iaload, 1)) (hc : c ∈ cRow) (ho : cO c = o) (hN : cN c = n) (hs : (o, 100, n) ∈ cShp) (ht : cT c 0 = 0) (hi : zix i n) (kk : zOk S d mi (pc + 1) L (.int (σ.1.1 c 0 i.toNatClampNeg) :: r) w Post) : zOk S d mi pc L (.int i :: .ref (b0 + o) :: r) w Post := by
  subst hN
  exact zi_ild hd (h.sh hs) hi (by rw [h.row hc ho hi]; unfold cV; simp only [ht]) kk
theorem zc_ll {c o n : Nat} {i : Int32} (h : cW b0 w0 pa sa σ w) (hd : zI mi pc = some (.laload, 1)) (hc : c ∈ cRow) (ho : cO c = o) (hN : cN c = n) (hs : (o, 101, n) ∈ cShp) (ht : cT c 0 = 1) (hi : zix i n) (kk : zOk S d mi (pc + 1) L (.long (σ.1.2.1 c 0 i.toNatClampNeg) :: r) w Post) : zOk S d mi pc L (.int i :: .ref (b0 + o) :: r) w Post := by
  subst hN
  exact zi_lld hd (h.sh hs) hi (by rw [h.row hc ho hi]; unfold cV; simp only [ht]) kk
theorem zc_lz {c o n : Nat} {i : Int32} (h : cW b0 w0 pa sa σ w) (hd : zI mi pc = some (.baload, 1)) (hc : c ∈ cRow) (ho : cO c = o) (hN : cN c = n) (hs : (o, 102, n) ∈ cShp) (ht : cT c 0 = 0) (hi : zix i n) (kk : zOk S d mi (pc + 1) L (.int (σ.1.1 c 0 i.toNatClampNeg) :: r) w Post) : zOk S d mi pc L (.int i :: .ref (b0 + o) :: r) w Post := by
  subst hN
  exact zi_zld hd (h.sh hs) hi (by rw [h.row hc ho hi]; unfold cV; simp only [ht]) kk
theorem zc_lp {i : Int32} (h : cW b0 w0 pa sa σ w) (hd : zI mi pc = some (.aaload, 1)) (hi : zix i 200) (kk : zOk S d mi (pc + 1) L (cr pa (σ.1.2.2 10 0 i.toNatClampNeg) :: r) w Post) : zOk S d mi pc L (.int i :: .ref (b0 + 2) :: r) w Post :=
  zi_ald (k := 3) hd (h.sh (o := 2) (c := 103) (n := 200) (by decide)) rfl hi (h.row (c := 10) (by decide) rfl hi) kk
theorem zc_ls {i : Int32} (h : cW b0 w0 pa sa σ w) (hd : zI mi pc = some (.aaload, 1)) (hi : zix i 500) (kk : zOk S d mi (pc + 1) L (cr sa (σ.1.2.2 20 0 i.toNatClampNeg) :: r) w Post) : zOk S d mi pc L (.int i :: .ref (b0 + 15) :: r) w Post :=
  zi_ald (k := 4) hd (h.sh (o := 15) (c := 104) (n := 500) (by decide)) rfl hi (h.row (c := 20) (by decide) rfl hi) kk
theorem zc_st {c o n : Nat} {i x : Int32} (h : cW b0 w0 pa sa σ w) (hd : zI mi pc = some (.iastore, 1)) (hc : c ∈ cRow) (ho : cO c = o) (hN : cN c = n) (hs : (o, 100, n) ∈ cShp) (ht : cT c 0 = 0) (hi : zix i n) (kk : ∀ w2, cW b0 w0 pa sa (cu1 σ c 0 i.toNatClampNeg x) w2 → zOk S d mi (pc + 1) L r w2 Post) : zOk S d mi pc L (.int x :: .int i :: .ref (b0 + o) :: r) w Post := by
  subst hN
  exact zi_ist hd (h.sh hs) hi (kk _ (h.rput hc ho hi (σ' := cu1 σ c 0 i.toNatClampNeg x) rfl h.2.2 (cV_1 ht) (fun _ _ _ => cV_1n)))
theorem zc_sl {c o n : Nat} {i : Int32} {x : Int64} (h : cW b0 w0 pa sa σ w) (hd : zI mi pc = some (.lastore, 1)) (hc : c ∈ cRow) (ho : cO c = o) (hN : cN c = n) (hs : (o, 101, n) ∈ cShp) (ht : cT c 0 = 1) (hi : zix i n) (kk : ∀ w2, cW b0 w0 pa sa (cu2 σ c 0 i.toNatClampNeg x) w2 → zOk S d mi (pc + 1) L r w2 Post) : zOk S d mi pc L (.long x :: .int i :: .ref (b0 + o) :: r) w Post := by
  subst hN
  exact zi_lst hd (h.sh hs) hi (kk _ (h.rput hc ho hi (σ' := cu2 σ c 0 i.toNatClampNeg x) rfl h.2.2 (cV_2 ht) (fun _ _ _ => cV_2n)))
theorem zc_sz {c o n : Nat} {i x : Int32} (h : cW b0 w0 pa sa σ w) (hd : zI mi pc = some (.bastore, 1)) (hc : c ∈ cRow) (ho : cO c = o) (hN : cN c = n) (hs : (o, 102, n) ∈ cShp) (ht : cT c 0 = 0) (hx : narrow .boolean (.int x) = .int x) (hi : zix i n) (kk : ∀ w2, cW b0 w0 pa sa (cu1 σ c 0 i.toNatClampNeg x) w2 → zOk S d mi (pc + 1) L r w2 Post) : zOk S d mi pc L (.int x :: .int i :: .ref (b0 + o) :: r) w Post := by
  subst hN
  exact zi_zst hd (h.sh hs) hx hi (kk _ (h.rput hc ho hi (σ' := cu1 σ c 0 i.toNatClampNeg x) rfl h.2.2 (cV_1 ht) (fun _ _ _ => cV_1n)))
theorem zc_sp {i : Int32} {j : Nat} (h : cW b0 w0 pa sa σ w) (hd : zI mi pc = some (.aastore, 1)) (hj : j < σ.2.1) (hi : zix i 200) (kk : ∀ w2, cW b0 w0 pa sa (cu3 σ 10 0 i.toNatClampNeg (some j)) w2 → zOk S d mi (pc + 1) L r w2 Post) : zOk S d mi pc L (.ref (pa j) :: .int i :: .ref (b0 + 2) :: r) w Post :=
  zi_ast (k := 3) hd (h.sh (o := 2) (c := 103) (n := 200) (by decide)) (h.shP hj) rfl hi (kk _ (h.rput (c := 10) (by decide) rfl hi (σ' := cu3 σ 10 0 i.toNatClampNeg (some j)) rfl (h.2.2.u3p rfl (fun _ e => by cases e; exact hj)) (cV_3p rfl) (fun _ _ _ => cV_3n)))
theorem zc_ss {i : Int32} {j : Nat} (h : cW b0 w0 pa sa σ w) (hd : zI mi pc = some (.aastore, 1)) (hj : j < σ.2.2.1) (hi : zix i 500) (kk : ∀ w2, cW b0 w0 pa sa (cu3 σ 20 0 i.toNatClampNeg (some j)) w2 → zOk S d mi (pc + 1) L r w2 Post) : zOk S d mi pc L (.ref (sa j) :: .int i :: .ref (b0 + 15) :: r) w Post :=
  zi_ast (k := 4) hd (h.sh (o := 15) (c := 104) (n := 500) (by decide)) (h.shS hj) rfl hi (kk _ (h.rput (c := 20) (by decide) rfl hi (σ' := cu3 σ 20 0 i.toNatClampNeg (some j)) rfl (h.2.2.u3s rfl (fun _ e => by cases e; exact hj)) (cV_3s rfl) (fun _ _ _ => cV_3n)))
end ZC
