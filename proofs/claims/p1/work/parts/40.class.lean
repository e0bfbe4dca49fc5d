/-! THE CLASS's STATE: class c, field k, object j (Parts and Spots by their numbers, the others 0); rows are c = 10 .. 20, element j. Ints and booleans, longs, references by number; then how many Parts and Spots there are, and the world's sizes -/
abbrev cS : Type := ((Nat → Nat → Nat → Int32) × (Nat → Nat → Nat → Int64) × (Nat → Nat → Nat → Option Nat)) × (Nat × Nat × (Nat × Nat))
def cu1 (σ : cS) (c k j : Nat) (x : Int32) : cS := ((fun a b e => if a = c ∧ b = k ∧ e = j then x else σ.1.1 a b e, σ.1.2), σ.2)
def cu2 (σ : cS) (c k j : Nat) (x : Int64) : cS := ((σ.1.1, (fun a b e => if a = c ∧ b = k ∧ e = j then x else σ.1.2.1 a b e), σ.1.2.2), σ.2)
def cu3 (σ : cS) (c k j : Nat) (x : Option Nat) : cS := ((σ.1.1, σ.1.2.1, fun a b e => if a = c ∧ b = k ∧ e = j then x else σ.1.2.2 a b e), σ.2)
def cPut {α : Type} (x : cS) (k : cS → α) : α := k x
theorem cPut_eq {α : Type} (x : cS) (k : cS → α) : cPut x k = k x := rfl
/-- a reference by number -/
def cr (p : Nat → Nat) (o : Option Nat) : Value := match o with
  | none => .null
  | some i => .ref (p i)
/-- where the single objects and the rows lie, the rows' lengths, the fields' kinds -/
def cO (c : Nat) : Nat := match c with
  | 0 => 10 | 2 => 1 | 4 => 3 | 5 => 4 | 6 => 0 | 10 => 2 | 11 => 5 | 12 => 6 | 13 => 7 | 14 => 8 | 15 => 9 | 16 => 11 | 17 => 12 | 18 => 13 | 19 => 14 | 20 => 15 | _ => 100
def cN (c : Nat) : Nat := match c with
  | 10 => 200 | 11 => 16 | 12 => 16 | 13 => 16 | 14 => 16 | 15 => 16 | 16 => 200 | 17 => 200 | 18 => 200 | 19 => 200 | 20 => 500 | _ => 0
def cT (c k : Nat) : Nat := match c, k with
  | 1, 3 => 1 | 1, 4 => 2 | 1, 5 => 2 | 1, 6 => 2 | 1, 7 => 2 | 1, 9 => 1
  | 3, 3 => 2 | 3, 4 => 2 | 3, 5 => 3 | 3, 6 => 3 | 3, 9 => 1 | 3, 10 => 1 | 3, 11 => 1
  | 4, 4 => 3
  | 10, _ => 2 | 11, _ => 1 | 12, _ => 1 | 13, _ => 1 | 14, _ => 1 | 20, _ => 3
  | _, _ => 0
def cV (pa sa : Nat → Nat) (σ : cS) (c k j : Nat) : Value := match cT c k with
  | 0 => .int (σ.1.1 c k j)
  | 1 => .long (σ.1.2.1 c k j)
  | 2 => cr pa (σ.1.2.2 c k j)
  | _ => cr sa (σ.1.2.2 c k j)
def cVal : List (Nat × Nat) := [(0, 4), (0, 5), (2, 1), (4, 3), (4, 4), (4, 5), (4, 6), (4, 7), (4, 8), (4, 9)]
def cFix : List (Nat × Nat × Nat) := [(0, 0, 11), (0, 1, 12), (0, 2, 13), (0, 3, 14), (2, 0, 2), (4, 0, 4), (4, 1, 10), (4, 2, 15), (5, 0, 5), (5, 1, 6), (5, 2, 7), (5, 3, 8), (5, 4, 9), (6, 0, 1), (6, 1, 3)]
def cShp : List (Nat × Nat × Nat) := [(0, 6, 2), (1, 2, 2), (2, 103, 200), (3, 4, 10), (4, 5, 5), (5, 101, 16), (6, 101, 16), (7, 101, 16), (8, 101, 16), (9, 102, 16), (10, 0, 6), (11, 100, 200), (12, 100, 200), (13, 100, 200), (14, 100, 200), (15, 104, 500)]
def cRow : List Nat := [10, 11, 12, 13, 14, 15, 16, 17, 18, 19, 20]
/-- the address of an object or a row -/
def cB (b0 : Nat) (pa sa : Nat → Nat) (c j : Nat) : Nat := match c with
  | 1 => pa j
  | 3 => sa j
  | c => b0 + cO c
/-- the place in it -/
def cP (c k j : Nat) : Nat := cond (Nat.ble 10 c) j k
def cOk (σ : cS) (c k j : Nat) : Prop := (c = 1 ∧ k < 11 ∧ j < σ.2.1) ∨ (c = 3 ∧ k < 13 ∧ j < σ.2.2.1) ∨ ((c, k) ∈ cVal ∧ j = 0) ∨ (c ∈ cRow ∧ k = 0 ∧ j < cN c)
def cRep (b0 : Nat) (pa sa : Nat → Nat) (σ : cS) (w : zW) : Prop :=
  w.1 = σ.2.2.2 ∧ b0 + 44 ≤ w.1.1 ∧ (∀ q ∈ cShp, w.2.1 (b0 + q.1) = some q.2) ∧ (∀ q ∈ cFix, w.2.2 (b0 + cO q.1) q.2.1 = .ref (b0 + q.2.2)) ∧
  (∀ i, i < σ.2.1 → w.2.1 (pa i) = some (1, 11) ∧ b0 + 44 ≤ pa i ∧ pa i < w.1.1) ∧ (∀ i, i < σ.2.2.1 → w.2.1 (sa i) = some (3, 13) ∧ b0 + 44 ≤ sa i ∧ sa i < w.1.1) ∧
  (∀ i j, i < σ.2.1 → j < σ.2.1 → pa i = pa j → i = j) ∧ (∀ i j, i < σ.2.2.1 → j < σ.2.2.1 → sa i = sa j → i = j) ∧
  ∀ c k j, cOk σ c k j → w.2.2 (cB b0 pa sa c j) (cP c k j) = cV pa sa σ c k j
/-- references are of what is there -/
def cFine (σ : cS) : Prop := (∀ c k j i, cOk σ c k j → cT c k = 2 → σ.1.2.2 c k j = some i → i < σ.2.1) ∧ ∀ c k j i, cOk σ c k j → cT c k = 3 → σ.1.2.2 c k j = some i → i < σ.2.2.1
def cin (x : Option Nat) (n : Nat) : Bool := match x with
  | none => true
  | some i => Nat.blt i n
theorem cin_lt {x : Option Nat} {n i : Nat} (h : cin x n = true) (hx : x = some i) : i < n := by
  subst hx
  exact Nat.le_of_ble_eq_true h
theorem cFine.u3p {σ : cS} {c k j : Nat} {x : Option Nat} (h : cFine σ) (ht : cT c k = 2) (hx : ∀ i, x = some i → i < σ.2.1) : cFine (cu3 σ c k j x) := by
  refine ⟨fun c' k' j' i ok t e => ?_, fun c' k' j' i ok t e => ?_⟩
  · by_cases hc : c' = c ∧ k' = k ∧ j' = j
    · simp only [cu3, hc, and_self, if_true] at e
      exact hx i e
    · simp only [cu3, hc, if_false] at e
      exact h.1 c' k' j' i ok t e
  · have hc : ¬ (c' = c ∧ k' = k ∧ j' = j) := fun q => by rw [q.1, q.2.1, ht] at t; cases t
    simp only [cu3, hc, if_false] at e
    exact h.2 c' k' j' i ok t e
theorem cFine.u3s {σ : cS} {c k j : Nat} {x : Option Nat} (h : cFine σ) (ht : cT c k = 3) (hx : ∀ i, x = some i → i < σ.2.2.1) : cFine (cu3 σ c k j x) := by
  refine ⟨fun c' k' j' i ok t e => ?_, fun c' k' j' i ok t e => ?_⟩
  · have hc : ¬ (c' = c ∧ k' = k ∧ j' = j) := fun q => by rw [q.1, q.2.1, ht] at t; cases t
    simp only [cu3, hc, if_false] at e
    exact h.1 c' k' j' i ok t e
  · by_cases hc : c' = c ∧ k' = k ∧ j' = j
    · simp only [cu3, hc, and_self, if_true] at e
      exact hx i e
    · simp only [cu3, hc, if_false] at e
      exact h.2 c' k' j' i ok t e
/-- the class's cells hold σ, the reference's are w0's -/
def cW (b0 : Nat) (w0 : zW) (pa sa : Nat → Nat) (σ : cS) (w : zW) : Prop := cRep b0 pa sa σ w ∧ (∀ a, b0 + 16 ≤ a → a < b0 + 44 → w.2.1 a = w0.2.1 a ∧ w.2.2 a = w0.2.2 a) ∧ cFine σ
theorem cO_val : ∀ q ∈ cVal, cO q.1 < 16 ∧ q.1 ≠ 1 ∧ q.1 ≠ 3 ∧ q.1 < 10 := by decide
theorem cO_row : ∀ c ∈ cRow, cO c < 16 ∧ c ≠ 1 ∧ c ≠ 3 ∧ 10 ≤ c := by decide
theorem cO_vv : ∀ q ∈ cVal, ∀ r ∈ cVal, cO q.1 = cO r.1 → q.1 = r.1 := by decide
theorem cO_rr : ∀ c ∈ cRow, ∀ e ∈ cRow, cO c = cO e → c = e := by decide
theorem cO_vr : ∀ q ∈ cVal, ∀ e ∈ cRow, cO q.1 ≠ cO e := by decide
theorem cO_fv : ∀ q ∈ cFix, ∀ r ∈ cVal, cO q.1 = cO r.1 → q.2.1 ≠ r.2 := by decide
theorem cO_fr : ∀ q ∈ cFix, ∀ e ∈ cRow, cO q.1 ≠ cO e := by decide
theorem cO_f : ∀ q ∈ cFix, cO q.1 < 16 := by decide
theorem cB_o {b0 : Nat} {pa sa : Nat → Nat} {c j : Nat} (h1 : c ≠ 1) (h3 : c ≠ 3) : cB b0 pa sa c j = b0 + cO c := by
  unfold cB
  split
  · exact absurd rfl h1
  · exact absurd rfl h3
  · rfl
theorem cP_lo {c k j : Nat} (h : c < 10) : cP c k j = k := by
  unfold cP
  cases hb : Nat.ble 10 c with
  | true => exact absurd (Nat.le_of_ble_eq_true hb) (Nat.not_le.mpr h)
  | false => rfl
theorem cP_hi {c k j : Nat} (h : 10 ≤ c) : cP c k j = j := by
  unfold cP
  rw [Nat.ble_eq_true_of_le h]
  rfl
/-- where a valid place lies: among the first sixteen cells, or behind the reference -/
theorem cB_out {b0 : Nat} {pa sa : Nat → Nat} {σ : cS} {w : zW} (h : cRep b0 pa sa σ w) {c k j : Nat} (ok : cOk σ c k j) : (cB b0 pa sa c j < b0 + 16 ∧ b0 ≤ cB b0 pa sa c j) ∨ b0 + 44 ≤ cB b0 pa sa c j := by
  obtain ⟨-, -, -, -, hp, hs, -⟩ := h
  rcases ok with ⟨rfl, -, hj⟩ | ⟨rfl, -, hj⟩ | ⟨hv, -⟩ | ⟨hr, -, -⟩
  · exact Or.inr (hp j hj).2.1
  · exact Or.inr (hs j hj).2.1
  · have := cO_val _ hv
    rw [cB_o this.2.1 this.2.2.1]
    exact Or.inl ⟨by have := this.1; simp only at this; omega, by omega⟩
  · have := cO_row _ hr
    rw [cB_o this.2.1 this.2.2.1]
    exact Or.inl ⟨by omega, by omega⟩
theorem c_inj {b0 : Nat} {pa sa : Nat → Nat} {σ : cS} {w : zW} (h : cRep b0 pa sa σ w) {c k j c' k' j' : Nat} (ok : cOk σ c k j) (ok' : cOk σ c' k' j') (hb : cB b0 pa sa c j = cB b0 pa sa c' j') (hp : cP c k j = cP c' k' j') : c = c' ∧ k = k' ∧ j = j' := by
  obtain ⟨-, -, -, -, hpp, hss, ip, is, -⟩ := h
  rcases ok with ⟨rfl, hk, hj⟩ | ⟨rfl, hk, hj⟩ | ⟨hv, rfl⟩ | ⟨hr, rfl, hj⟩ <;> rcases ok' with ⟨rfl, hk', hj'⟩ | ⟨rfl, hk', hj'⟩ | ⟨hv', rfl⟩ | ⟨hr', rfl, hj'⟩
  · exact ⟨rfl, hp, ip j j' hj hj' hb⟩
  · have e : pa j = sa j' := hb
    have h1 := (hpp j hj).1
    rw [e, (hss j' hj').1] at h1
    cases h1
  · have o := cO_val _ hv'
    rw [cB_o o.2.1 o.2.2.1] at hb
    have e : pa j = b0 + cO c' := hb
    have := (hpp j hj).2.1
    have := o.1
    simp only at this
    omega
  · have o := cO_row _ hr'
    rw [cB_o o.2.1 o.2.2.1] at hb
    have e : pa j = b0 + cO c' := hb
    have := (hpp j hj).2.1
    omega
  · have e : sa j = pa j' := hb
    have h1 := (hss j hj).1
    rw [e, (hpp j' hj').1] at h1
    cases h1
  · exact ⟨rfl, hp, is j j' hj hj' hb⟩
  · have o := cO_val _ hv'
    rw [cB_o o.2.1 o.2.2.1] at hb
    have e : sa j = b0 + cO c' := hb
    have := (hss j hj).2.1
    have := o.1
    simp only at this
    omega
  · have o := cO_row _ hr'
    rw [cB_o o.2.1 o.2.2.1] at hb
    have e : sa j = b0 + cO c' := hb
    have := (hss j hj).2.1
    omega
  · have o := cO_val _ hv
    rw [cB_o o.2.1 o.2.2.1] at hb
    have e : b0 + cO c = pa j' := hb
    have := (hpp j' hj').2.1
    have := o.1
    simp only at this
    omega
  · have o := cO_val _ hv
    rw [cB_o o.2.1 o.2.2.1] at hb
    have e : b0 + cO c = sa j' := hb
    have := (hss j' hj').2.1
    have := o.1
    simp only at this
    omega
  · have o := cO_val _ hv
    have o' := cO_val _ hv'
    rw [cB_o o.2.1 o.2.2.1, cB_o o'.2.1 o'.2.2.1] at hb
    have e := cO_vv (c, k) hv (c', k') hv' (show cO c = cO c' from by have hb2 : b0 + cO c = b0 + cO c' := hb; omega)
    simp only at e
    subst e
    rw [cP_lo o.2.2.2, cP_lo o.2.2.2] at hp
    exact ⟨rfl, hp, rfl⟩
  · have o := cO_val _ hv
    have o' := cO_row _ hr'
    rw [cB_o o.2.1 o.2.2.1, cB_o o'.2.1 o'.2.2.1] at hb
    exact absurd (by omega) (cO_vr _ hv _ hr')
  · have o := cO_row _ hr
    rw [cB_o o.2.1 o.2.2.1] at hb
    have e : b0 + cO c = pa j' := hb
    have := (hpp j' hj').2.1
    omega
  · have o := cO_row _ hr
    rw [cB_o o.2.1 o.2.2.1] at hb
    have e : b0 + cO c = sa j' := hb
    have := (hss j' hj').2.1
    omega
  · have o := cO_row _ hr
    have o' := cO_val _ hv'
    rw [cB_o o.2.1 o.2.2.1, cB_o o'.2.1 o'.2.2.1] at hb
    exact absurd (by omega) (cO_vr _ hv' _ hr)
  · have o := cO_row _ hr
    have o' := cO_row _ hr'
    rw [cB_o o.2.1 o.2.2.1, cB_o o'.2.1 o'.2.2.1] at hb
    have e := cO_rr _ hr _ hr' (by omega)
    subst e
    rw [cP_hi o.2.2.2, cP_hi o.2.2.2] at hp
    exact ⟨rfl, rfl, hp⟩
/-- a value is written -/
theorem cW.put {b0 : Nat} {w0 : zW} {pa sa : Nat → Nat} {σ σ' : cS} {w : zW} {c k j : Nat} {v : Value} (h : cW b0 w0 pa sa σ w) (ok : cOk σ c k j) (h2 : σ'.2 = σ.2) (hF : cFine σ') (hv : cV pa sa σ' c k j = v) (ho : ∀ c' k' j', ¬ (c' = c ∧ k' = k ∧ j' = j) → cV pa sa σ' c' k' j' = cV pa sa σ c' k' j') : cW b0 w0 pa sa σ' (zset w (cB b0 pa sa c j) (cP c k j) v) := by
  have hR := h.1
  obtain ⟨⟨g1, g2, g3, g4, g5, g6, g7, g8, g9⟩, g10, -⟩ := h
  have out := cB_out hR ok
  have okk : ∀ {a b e : Nat}, cOk σ' a b e → cOk σ a b e := fun q => by unfold cOk at q ⊢; rw [h2] at q; exact q
  refine ⟨⟨by rw [h2]; exact g1, g2, g3, fun q hq => ?_, by rw [h2]; exact g5, by rw [h2]; exact g6, by rw [h2]; exact g7, by rw [h2]; exact g8, fun c' k' j' ok' => ?_⟩, fun a h1 h3 => ⟨(g10 a h1 h3).1, ?_⟩, hF⟩
  · rw [zset_ne (fun e => ?_)]
    · exact g4 q hq
    · obtain ⟨e1, e2⟩ := e
      have of := cO_f q hq
      rcases ok with ⟨rfl, -, hj⟩ | ⟨rfl, -, hj⟩ | ⟨hv', -⟩ | ⟨hr, -, -⟩
      · have : b0 + cO q.1 = pa j := e1
        have := (g5 j hj).2.1
        omega
      · have : b0 + cO q.1 = sa j := e1
        have := (g6 j hj).2.1
        omega
      · have o := cO_val _ hv'
        rw [cB_o o.2.1 o.2.2.1] at e1
        rw [cP_lo o.2.2.2] at e2
        exact cO_fv q hq (c, k) hv' (show cO q.1 = cO c from by have e3 : b0 + cO q.1 = b0 + cO c := e1; omega) e2
      · have o := cO_row _ hr
        rw [cB_o o.2.1 o.2.2.1] at e1
        exact cO_fr q hq _ hr (by omega)
  · by_cases hc : c' = c ∧ k' = k ∧ j' = j
    · obtain ⟨rfl, rfl, rfl⟩ := hc
      rw [zset_eq, hv]
    · rw [zset_ne (fun e => hc (c_inj hR (okk ok') ok e.1 e.2)), ho c' k' j' hc]
      exact g9 c' k' j' (okk ok')
  · rw [zset_off (by rintro rfl; omega)]
    exact (g10 a h1 h3).2
theorem cV_1 {pa sa : Nat → Nat} {σ : cS} {c k j : Nat} {x : Int32} (ht : cT c k = 0) : cV pa sa (cu1 σ c k j x) c k j = .int x := by
  unfold cV
  rw [ht]
  simp [cu1]
theorem cV_2 {pa sa : Nat → Nat} {σ : cS} {c k j : Nat} {x : Int64} (ht : cT c k = 1) : cV pa sa (cu2 σ c k j x) c k j = .long x := by
  unfold cV
  rw [ht]
  simp [cu2]
theorem cV_3p {pa sa : Nat → Nat} {σ : cS} {c k j : Nat} {x : Option Nat} (ht : cT c k = 2) : cV pa sa (cu3 σ c k j x) c k j = cr pa x := by
  unfold cV
  rw [ht]
  simp [cu3]
theorem cV_3s {pa sa : Nat → Nat} {σ : cS} {c k j : Nat} {x : Option Nat} (ht : cT c k = 3) : cV pa sa (cu3 σ c k j x) c k j = cr sa x := by
  unfold cV
  rw [ht]
  simp [cu3]
theorem cV_1n {pa sa : Nat → Nat} {σ : cS} {c k j c' k' j' : Nat} {x : Int32} (h : ¬ (c' = c ∧ k' = k ∧ j' = j)) : cV pa sa (cu1 σ c k j x) c' k' j' = cV pa sa σ c' k' j' := by
  simp only [cV, cu1, h, if_false]
theorem cV_2n {pa sa : Nat → Nat} {σ : cS} {c k j c' k' j' : Nat} {x : Int64} (h : ¬ (c' = c ∧ k' = k ∧ j' = j)) : cV pa sa (cu2 σ c k j x) c' k' j' = cV pa sa σ c' k' j' := by
  simp only [cV, cu2, h, if_false]
theorem cV_3n {pa sa : Nat → Nat} {σ : cS} {c k j c' k' j' : Nat} {x : Option Nat} (h : ¬ (c' = c ∧ k' = k ∧ j' = j)) : cV pa sa (cu3 σ c k j x) c' k' j' = cV pa sa σ c' k' j' := by
  simp only [cV, cu3, h, if_false]
