/-! rows by number: get, put, fill; references that are returned or stored -/
def cget (σ : cS) (c : Nat) (k : Int32) : Int64 := if k < 0 ∨ nI 16 ≤ k then 0 else σ.1.2.1 c 0 k.toNatClampNeg
def cputb (k : Int32) : Int32 := if k < 0 ∨ nI 16 ≤ k then 0 else 1
def cput (σ : cS) (c : Nat) (k : Int32) (v : Int64) : cS := if k < 0 ∨ nI 16 ≤ k then σ else cu2 σ c 0 k.toNatClampNeg v
def cfill (σ : cS) (c : Nat) (v : Int64) : Nat → cS
  | 0 => σ
  | n + 1 => cu2 (cfill σ c v n) c 0 n v
section ZC2
variable {S : zS} {d mi pc : Nat} {L : List (Nat × Value)} {r : List Value} {w w0 : zW} {Post : Option Value → zW → Prop} {b0 : Nat} {pa sa : Nat → Nat} {σ : cS}
theorem c_lrow : ∀ c ∈ [11, 12, 13, 14], c ∈ cRow ∧ (cO c, 101, 16) ∈ cShp ∧ cT c 0 = 1 ∧ cN c = 16 := by decide
theorem cT_get {c o : Nat} {k : Int32} (h : cW b0 w0 pa sa σ w) (hc : c ∈ [11, 12, 13, 14]) (ho : cO c = o) (hP : Post (some (.long (cget σ c k))) w) : zOk S d 34 0 (lv_args 0 [.ref (b0 + o), .int k]) [] w Post := by
  obtain ⟨h1, h2, h3, h4⟩ := c_lrow c hc
  subst ho
  refine c_get (n := 16) (f := fun i => σ.1.2.1 c 0 i) (h.sh h2) (by decide) (fun i hi => ?_) hP
  have q := cO_row c h1
  have e := h.val (cOk.R h1 (j := i) (by rw [h4]; exact hi))
  rw [cB_o q.2.1 q.2.2.1, cP_hi q.2.2.2] at e
  rw [e]
  unfold cV
  simp only [h3]
theorem cT_put {c o : Nat} {k : Int32} {v : Int64} (h : cW b0 w0 pa sa σ w) (hc : c ∈ [11, 12, 13, 14]) (ho : cO c = o) (kk : ∀ w2, cW b0 w0 pa sa (cput σ c k v) w2 → Post (some (.int (cputb k))) w2) : zOk S d 21 0 (lv_args 0 [.ref (b0 + o), .int k, .long v]) [] w Post := by
  obtain ⟨h1, h2, h3, h4⟩ := c_lrow c hc
  refine c_put (n := 16) (h.sh (by rw [← ho]; exact h2)) (by decide) ?_
  refine kk _ ?_
  unfold cput
  by_cases hq : k < 0 ∨ nI 16 ≤ k
  · rw [if_pos hq, if_pos hq]; exact h
  · rw [if_neg hq, if_neg hq]
    have hi : zix k (cN c) := by rw [h4]; exact zix_of (by decide) (fun q => hq (Or.inl q)) (fun q => hq (Or.inr q))
    exact h.rput h1 ho hi rfl h.2.2 (cV_2 h3) (fun _ _ _ => cV_2n)
theorem cT_fill {c o : Nat} {v : Int64} (h : cW b0 w0 pa sa σ w) (hc : c ∈ [11, 12, 13, 14]) (ho : cO c = o) (kk : ∀ w2, cW b0 w0 pa sa (cfill σ c v 16) w2 → Post none w2) : zOk S d 25 0 (lv_args 0 [.ref (b0 + o), .long v]) [] w Post := by
  obtain ⟨h1, h2, h3, h4⟩ := c_lrow c hc
  refine c_fill (n := 16) (h.sh (by rw [← ho]; exact h2)) (by decide) (kk _ ?_)
  have key : ∀ n, n ≤ 16 → cW b0 w0 pa sa (cfill σ c v n) (zfill w (b0 + o) v n) := by
    intro n
    induction n with
    | zero => intro _; exact h
    | succ n ih =>
      intro hn
      have h5 := ih (by omega)
      have hi : zix (nI n) (cN c) := by rw [h4]; exact vp_in_nI (by omega) (by decide)
      have e := h5.rput (σ' := cu2 (cfill σ c v n) c 0 (nI n).toNatClampNeg v) h1 ho hi rfl h5.2.2 (cV_2 h3) (fun _ _ _ => cV_2n)
      rw [nI_clamp (by omega)] at e
      exact e
  exact key 16 (Nat.le_refl _)
/-- a reference is the answer -/
theorem zi_rr {p : Nat → Nat} {o : Option Nat} {C : String} (hd : zI mi pc = some (.areturn, 1)) (hr : zRT mi = some (.object C)) (k : Post (some (cr p o)) w) : zOk S d mi pc L [cr p o] w Post := by
  cases o with
  | none => exact zk_ret (zI_ok hd) rfl (by simp only [cr, zrt, hr]) k
  | some i => exact zk_ret (zI_ok hd) rfl (by simp only [cr, zrt, hr]) k
theorem c_pf {c k : Nat} {p : Nat → Nat} {x : Option Nat} (h : (match zFT c k with | .object _ => !zFin c k | _ => false) = true) : zPf mi c k (cr p x) := by
  unfold zPf
  split at h
  · rename_i C hC
    rw [hC]
    have hf : zFin c k = false := by simpa using h
    cases x with
    | none => exact ⟨rfl, rfl, Or.inl hf⟩
    | some i => exact ⟨rfl, rfl, Or.inl hf⟩
  · cases h
end ZC2
