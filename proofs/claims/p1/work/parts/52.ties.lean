/-! the recursions tied: by fuel, which is the depth of calls -/
def mX_reckon : Nat → Int32 → mS → Option (Int64 × mS)
  | 0 => fun _ _ => none
  | n + 1 => fun a μ => mF_reckon (mX_reckon n) a μ
def mX_lay : Nat → Int32 → mS → Option (Int32 × mS)
  | 0 => fun _ _ => none
  | n + 1 => fun a μ => mF_lay (mX_lay n) a μ
def mX_still : Nat → Int32 → Int32 → mS → Option (Int32 × mS)
  | 0 => fun _ _ _ => none
  | n + 1 => fun a b μ => mF_still (mX_still n) a b μ
def mX_go : Nat → Int32 → mS → Option (Int32 × mS)
  | 0 => fun _ _ => none
  | n + 1 => fun a μ => mF_go (mX_reckon 40) (mX_go n) a μ
def mX_giveUp : Nat → Int32 → mS → Option (Unit × mS)
  | 0 => fun _ _ => none
  | n + 1 => fun a μ => mF_giveUp (mX_giveUp n) (mX_go 40) a μ
def mX_look : Nat → Int32 → mS → Option (Int32 × mS)
  | 0 => fun _ _ => none
  | n + 1 => fun a μ => mF_look (mX_look n) (mX_reckon 40) (mX_giveUp 40) a μ
section MX
variable {S : zS} {w0 : zW} {m0 : Nat}
theorem mXT_reckon : ∀ (n : Nat) {x1 : Int32} {ν ν2 : mS} {y : Int64} {w : zW} {P : Option Value → zW → Prop}, mX_reckon n x1 ν = some (y, ν2) → mW m0 w0 ν w → (∀ w2, mW m0 w0 ν2 w2 → P (some (.long y)) w2) → zOk S n 85 0 (lv_args 0 [.ref m0, .int x1]) [] w P := by
  intro n
  induction n with
  | zero => intro x1 ν ν2 y w P h; cases h
  | succ n ih => intro x1 ν ν2 y w P h hw k; exact mT_reckon (Nat.zero_le _) (fun h1 h2 h3 => ih h1 h2 h3) h hw k
theorem mXT_lay : ∀ (n : Nat) {x1 : Int32} {ν ν2 : mS} {y : Int32} {w : zW} {P : Option Value → zW → Prop}, mX_lay n x1 ν = some (y, ν2) → mW m0 w0 ν w → (∀ w2, mW m0 w0 ν2 w2 → P (some (.int y)) w2) → zOk S n 82 0 (lv_args 0 [.ref m0, .int x1]) [] w P := by
  intro n
  induction n with
  | zero => intro x1 ν ν2 y w P h; cases h
  | succ n ih => intro x1 ν ν2 y w P h hw k; exact mT_lay (Nat.zero_le _) (fun h1 h2 h3 => ih h1 h2 h3) h hw k
theorem mXT_still : ∀ (n : Nat) {x1 x2 : Int32} {ν ν2 : mS} {y : Int32} {w : zW} {P : Option Value → zW → Prop}, mX_still n x1 x2 ν = some (y, ν2) → mW m0 w0 ν w → (∀ w2, mW m0 w0 ν2 w2 → P (some (.int y)) w2) → zOk S n 101 0 (lv_args 0 [.ref m0, .int x1, .int x2]) [] w P := by
  intro n
  induction n with
  | zero => intro x1 x2 ν ν2 y w P h; cases h
  | succ n ih => intro x1 x2 ν ν2 y w P h hw k; exact mT_still (Nat.zero_le _) (fun h1 h2 h3 => ih h1 h2 h3) h hw k
theorem mXT_go : ∀ (n : Nat) {x1 : Int32} {ν ν2 : mS} {y : Int32} {w : zW} {P : Option Value → zW → Prop}, mX_go n x1 ν = some (y, ν2) → mW m0 w0 ν w → (∀ w2, mW m0 w0 ν2 w2 → P (some (.int y)) w2) → zOk S (2 * n + 45) 89 0 (lv_args 0 [.ref m0, .int x1]) [] w P := by
  intro n
  induction n with
  | zero => intro x1 ν ν2 y w P h; cases h
  | succ n ih =>
    intro x1 ν ν2 y w P h hw k
    exact mT_go (q := 2 * n + 45) (by omega) (fun h1 h2 h3 => (mXT_reckon 40 h1 h2 h3).deep (by omega)) (fun h1 h2 h3 => ih h1 h2 h3) h hw k
theorem mXT_giveUp : ∀ (n : Nat) {x1 : Int32} {ν ν2 : mS} {y : Unit} {w : zW} {P : Option Value → zW → Prop}, mX_giveUp n x1 ν = some (y, ν2) → mW m0 w0 ν w → (∀ w2, mW m0 w0 ν2 w2 → P none w2) → zOk S (n + 125) 88 0 (lv_args 0 [.ref m0, .int x1]) [] w P := by
  intro n
  induction n with
  | zero => intro x1 ν ν2 y w P h; cases h
  | succ n ih =>
    intro x1 ν ν2 y w P h hw k
    exact (mT_giveUp (q := n + 125) (by omega) (fun h1 h2 h3 => ih h1 h2 h3) (fun h1 h2 h3 => (mXT_go 40 h1 h2 h3).deep (by omega)) h hw k).deep (by omega)
theorem mXT_look : ∀ (n : Nat) {x1 : Int32} {ν ν2 : mS} {y : Int32} {w : zW} {P : Option Value → zW → Prop}, mX_look n x1 ν = some (y, ν2) → mW m0 w0 ν w → (∀ w2, mW m0 w0 ν2 w2 → P (some (.int y)) w2) → zOk S (n + 165) 84 0 (lv_args 0 [.ref m0, .int x1]) [] w P := by
  intro n
  induction n with
  | zero => intro x1 ν ν2 y w P h; cases h
  | succ n ih =>
    intro x1 ν ν2 y w P h hw k
    exact (mT_look (q := n + 165) (by omega) (fun h1 h2 h3 => ih h1 h2 h3) (fun h1 h2 h3 => (mXT_reckon 40 h1 h2 h3).deep (by omega)) (fun h1 h2 h3 => (mXT_giveUp 40 h1 h2 h3).deep (by omega)) h hw k).deep (by omega)
end MX
def cX_reckon : Nat → Option Nat → cS → Option (Int64 × cS)
  | 0 => fun _ _ => none
  | n + 1 => fun a σ => cF_reckon (cX_reckon n) a σ
def cX_goOn : Nat → Option Nat → cS → Option (Int32 × cS)
  | 0 => fun _ _ => none
  | n + 1 => fun a σ => cF_goOn (cX_reckon 40) (cX_goOn n) a σ
def cX_giveUp : Nat → Option Nat → cS → Option (Int32 × cS)
  | 0 => fun _ _ => none
  | n + 1 => fun a σ => cF_giveUp (cX_giveUp n) (cX_goOn 40) a σ
def cX_layOut : Nat → Option Nat → cS → Option (Option Nat × cS)
  | 0 => fun _ _ => none
  | n + 1 => fun a σ => cF_layOut (cX_layOut n) a σ
section CX
variable {S : zS} {w0 : zW} {b0 : Nat} {pa : Nat → Nat}
theorem cXT_reckon {sa : Nat → Nat} : ∀ (n : Nat) {x1 : Option Nat} {ν ν2 : cS} {y : Int64} {w : zW} {P : Option Value → zW → Prop}, cX_reckon n x1 ν = some (y, ν2) → cW b0 w0 pa sa ν w → (∀ w2, cW b0 w0 pa sa ν2 w2 → P (some (.long y)) w2) → zOk S (n + 1) 33 0 (lv_args 0 [.ref (b0 + 3), cr pa x1]) [] w P := by
  intro n
  induction n with
  | zero => intro x1 ν ν2 y w P h; cases h
  | succ n ih => intro x1 ν ν2 y w P h hw k; exact cT_reckon (q := n + 1) (by omega) (fun h1 h2 h3 => ih h1 h2 h3) h hw k
theorem cXT_goOn {sa : Nat → Nat} : ∀ (n : Nat) {x1 : Option Nat} {ν ν2 : cS} {y : Int32} {w : zW} {P : Option Value → zW → Prop}, cX_goOn n x1 ν = some (y, ν2) → cW b0 w0 pa sa ν w → (∀ w2, cW b0 w0 pa sa ν2 w2 → P (some (.int y)) w2) → zOk S (3 * n + 45) 38 0 (lv_args 0 [.ref (b0 + 3), cr sa x1]) [] w P := by
  intro n
  induction n with
  | zero => intro x1 ν ν2 y w P h; cases h
  | succ n ih =>
    intro x1 ν ν2 y w P h hw k
    exact cT_goOn (q := 3 * n + 45) (by omega) (fun h1 h2 h3 => (cXT_reckon 40 h1 h2 h3).deep (by omega)) (fun h1 h2 h3 => ih h1 h2 h3) h hw k
theorem cXT_giveUp {sa : Nat → Nat} : ∀ (n : Nat) {x1 : Option Nat} {ν ν2 : cS} {y : Int32} {w : zW} {P : Option Value → zW → Prop}, cX_giveUp n x1 ν = some (y, ν2) → cW b0 w0 pa sa ν w → (∀ w2, cW b0 w0 pa sa ν2 w2 → P (some (.int y)) w2) → zOk S (n + 165) 36 0 (lv_args 0 [.ref (b0 + 3), cr sa x1]) [] w P := by
  intro n
  induction n with
  | zero => intro x1 ν ν2 y w P h; cases h
  | succ n ih =>
    intro x1 ν ν2 y w P h hw k
    exact (cT_giveUp (q := n + 165) (by omega) (fun h1 h2 h3 => ih h1 h2 h3) (fun h1 h2 h3 => (cXT_goOn 40 h1 h2 h3).deep (by omega)) h hw k).deep (by omega)
theorem cXT_layOut : ∀ (n : Nat) {x1 : Option Nat} {ν ν2 : cS} {y : Option Nat} {w : zW} {sa : Nat → Nat} {P : Option Value → zW → Prop}, cX_layOut n x1 ν = some (y, ν2) → cW b0 w0 pa sa ν w → (∀ sa2 w2, (∀ i, i < ν.2.2.1 → sa2 i = sa i) → cW b0 w0 pa sa2 ν2 w2 → P (some (cr sa2 y)) w2) → zOk S (n + 2) 27 0 (lv_args 0 [.ref (b0 + 3), cr pa x1]) [] w P := by
  intro n
  induction n with
  | zero => intro x1 ν ν2 y w sa P h; cases h
  | succ n ih =>
    intro x1 ν ν2 y w sa P h hw k
    exact cT_layOut (q := n + 2) (by omega) (fun h1 h2 h3 => ih h1 h2 h3) (Nat.le_refl _) (fun _ _ => rfl) h hw k
end CX
