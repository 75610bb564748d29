/-! no step takes cells away -/
def mnO (al : AL) (o : Out) : Prop := match o with
  | some (.inl (_, _, _, al', _, _)) => al.1 ≤ al'.1 ∧ al.2.1 ≤ al'.2.1
  | _ => True
def Mnp (sp : Sp) : Prop := ∀ ls st al hi hr, mnO al (sp ls st al hi hr)
theorem mn_sK {x : Int} {nx : Nat} : Mnp (sK x nx) := by
  intro ls st al hi hr
  unfold sK
  (repeat' split) <;> first | exact ⟨Nat.le_refl _, Nat.le_refl _⟩ | trivial
theorem mn_sNul {nx : Nat} : Mnp (sNul nx) := by
  intro ls st al hi hr
  unfold sNul
  (repeat' split) <;> first | exact ⟨Nat.le_refl _, Nat.le_refl _⟩ | trivial
theorem mn_sLC {x : Int} {nx : Nat} : Mnp (sLC x nx) := by
  intro ls st al hi hr
  unfold sLC
  (repeat' split) <;> first | exact ⟨Nat.le_refl _, Nat.le_refl _⟩ | trivial
theorem mn_sLI {i : Nat} {nx : Nat} : Mnp (sLI i nx) := by
  intro ls st al hi hr
  unfold sLI
  (repeat' split) <;> first | exact ⟨Nat.le_refl _, Nat.le_refl _⟩ | trivial
theorem mn_sLR {i : Nat} {nx : Nat} : Mnp (sLR i nx) := by
  intro ls st al hi hr
  unfold sLR
  (repeat' split) <;> first | exact ⟨Nat.le_refl _, Nat.le_refl _⟩ | trivial
theorem mn_sLL {i : Nat} {nx : Nat} : Mnp (sLL i nx) := by
  intro ls st al hi hr
  unfold sLL
  (repeat' split) <;> first | exact ⟨Nat.le_refl _, Nat.le_refl _⟩ | trivial
theorem mn_sSI {i : Nat} {nx : Nat} : Mnp (sSI i nx) := by
  intro ls st al hi hr
  unfold sSI
  (repeat' split) <;> first | exact ⟨Nat.le_refl _, Nat.le_refl _⟩ | trivial
theorem mn_sSR {i : Nat} {nx : Nat} : Mnp (sSR i nx) := by
  intro ls st al hi hr
  unfold sSR
  (repeat' split) <;> first | exact ⟨Nat.le_refl _, Nat.le_refl _⟩ | trivial
theorem mn_sInc {i : Nat} {n : Int} {nx : Nat} : Mnp (sInc i n nx) := by
  intro ls st al hi hr
  unfold sInc
  (repeat' split) <;> first | exact ⟨Nat.le_refl _, Nat.le_refl _⟩ | trivial
theorem mn_sB2 {f : Int → Int → Int} {nx : Nat} : Mnp (sB2 f nx) := by
  intro ls st al hi hr
  unfold sB2
  (repeat' split) <;> first | exact ⟨Nat.le_refl _, Nat.le_refl _⟩ | trivial
theorem mn_sM2 {f : Int → Int → Int} {nx : Nat} : Mnp (sM2 f nx) := by
  intro ls st al hi hr
  unfold sM2
  (repeat' split) <;> first | exact ⟨Nat.le_refl _, Nat.le_refl _⟩ | trivial
theorem mn_sD2 {f : Int → Int → Int} {nx : Nat} : Mnp (sD2 f nx) := by
  intro ls st al hi hr
  unfold sD2
  (repeat' split) <;> first | exact ⟨Nat.le_refl _, Nat.le_refl _⟩ | trivial
theorem mn_sB1 {f : Int → Int} {nx : Nat} : Mnp (sB1 f nx) := by
  intro ls st al hi hr
  unfold sB1
  (repeat' split) <;> first | exact ⟨Nat.le_refl _, Nat.le_refl _⟩ | trivial
theorem mn_sI2L {nx : Nat} : Mnp (sI2L nx) := by
  intro ls st al hi hr
  unfold sI2L
  (repeat' split) <;> first | exact ⟨Nat.le_refl _, Nat.le_refl _⟩ | trivial
theorem mn_sL2I {nx : Nat} : Mnp (sL2I nx) := by
  intro ls st al hi hr
  unfold sL2I
  (repeat' split) <;> first | exact ⟨Nat.le_refl _, Nat.le_refl _⟩ | trivial
theorem mn_sLAdd {nx : Nat} : Mnp (sLAdd nx) := by
  intro ls st al hi hr
  unfold sLAdd
  (repeat' split) <;> first | exact ⟨Nat.le_refl _, Nat.le_refl _⟩ | trivial
theorem mn_sLCmp {nx : Nat} : Mnp (sLCmp nx) := by
  intro ls st al hi hr
  unfold sLCmp
  (repeat' split) <;> first | exact ⟨Nat.le_refl _, Nat.le_refl _⟩ | trivial
theorem mn_sDup {nx : Nat} : Mnp (sDup nx) := by
  intro ls st al hi hr
  unfold sDup
  (repeat' split) <;> first | exact ⟨Nat.le_refl _, Nat.le_refl _⟩ | trivial
theorem mn_sPop {nx : Nat} : Mnp (sPop nx) := by
  intro ls st al hi hr
  unfold sPop
  (repeat' split) <;> first | exact ⟨Nat.le_refl _, Nat.le_refl _⟩ | trivial
theorem mn_sDup2 {nx : Nat} : Mnp (sDup2 nx) := by
  intro ls st al hi hr
  unfold sDup2
  (repeat' split) <;> first | exact ⟨Nat.le_refl _, Nat.le_refl _⟩ | trivial
theorem mn_sCt {nx : Nat} : Mnp (sCt nx) := by
  intro ls st al hi hr
  unfold sCt
  (repeat' split) <;> first | exact ⟨Nat.le_refl _, Nat.le_refl _⟩ | trivial
theorem mn_sI1 {c : Nat} {t : Nat} {nx : Nat} : Mnp (sI1 c t nx) := by
  intro ls st al hi hr
  unfold sI1
  (repeat' split) <;> first | exact ⟨Nat.le_refl _, Nat.le_refl _⟩ | trivial
theorem mn_sI2 {c : Nat} {t : Nat} {nx : Nat} : Mnp (sI2 c t nx) := by
  intro ls st al hi hr
  unfold sI2
  (repeat' split) <;> first | exact ⟨Nat.le_refl _, Nat.le_refl _⟩ | trivial
theorem mn_sNl {t : Nat} {nx : Nat} : Mnp (sNl t nx) := by
  intro ls st al hi hr
  unfold sNl
  (repeat' split) <;> first | exact ⟨Nat.le_refl _, Nat.le_refl _⟩ | trivial
theorem mn_sGo {t : Nat} : Mnp (sGo t) := by
  intro ls st al hi hr
  unfold sGo
  (repeat' split) <;> first | exact ⟨Nat.le_refl _, Nat.le_refl _⟩ | trivial
theorem mn_sSw {l : List (Int × Nat)} {d : Nat} : Mnp (sSw l d) := by
  intro ls st al hi hr
  unfold sSw
  (repeat' split) <;> first | exact ⟨Nat.le_refl _, Nat.le_refl _⟩ | trivial
theorem mn_sGI {c : Nat} {k : Nat} {nx : Nat} : Mnp (sGI c k nx) := by
  intro ls st al hi hr
  unfold sGI
  (repeat' split) <;> first | exact ⟨Nat.le_refl _, Nat.le_refl _⟩ | trivial
theorem mn_sGR {c : Nat} {k : Nat} {nx : Nat} : Mnp (sGR c k nx) := by
  intro ls st al hi hr
  unfold sGR
  (repeat' split) <;> first | exact ⟨Nat.le_refl _, Nat.le_refl _⟩ | trivial
theorem mn_sPI {c : Nat} {k : Nat} {nx : Nat} : Mnp (sPI c k nx) := by
  intro ls st al hi hr
  unfold sPI
  (repeat' split) <;> first | exact ⟨Nat.le_refl _, Nat.le_refl _⟩ | trivial
theorem mn_sPZ {c : Nat} {k : Nat} {nx : Nat} : Mnp (sPZ c k nx) := by
  intro ls st al hi hr
  unfold sPZ
  (repeat' split) <;> first | exact ⟨Nat.le_refl _, Nat.le_refl _⟩ | trivial
theorem mn_sPR {c : Nat} {k : Nat} {nx : Nat} : Mnp (sPR c k nx) := by
  intro ls st al hi hr
  unfold sPR
  (repeat' split) <;> first | exact ⟨Nat.le_refl _, Nat.le_refl _⟩ | trivial
theorem mn_sGS {nx : Nat} : Mnp (sGS nx) := by
  intro ls st al hi hr
  unfold sGS
  (repeat' split) <;> first | exact ⟨Nat.le_refl _, Nat.le_refl _⟩ | trivial
theorem mn_sIA {nx : Nat} : Mnp (sIA nx) := by
  intro ls st al hi hr
  unfold sIA
  (repeat' split) <;> first | exact ⟨Nat.le_refl _, Nat.le_refl _⟩ | trivial
theorem mn_sBA {nx : Nat} : Mnp (sBA nx) := by
  intro ls st al hi hr
  unfold sBA
  (repeat' split) <;> first | exact ⟨Nat.le_refl _, Nat.le_refl _⟩ | trivial
theorem mn_sRA {nx : Nat} : Mnp (sRA nx) := by
  intro ls st al hi hr
  unfold sRA
  (repeat' split) <;> first | exact ⟨Nat.le_refl _, Nat.le_refl _⟩ | trivial
theorem mn_sIS {nx : Nat} : Mnp (sIS nx) := by
  intro ls st al hi hr
  unfold sIS
  (repeat' split) <;> first | exact ⟨Nat.le_refl _, Nat.le_refl _⟩ | trivial
theorem mn_sBS {nx : Nat} : Mnp (sBS nx) := by
  intro ls st al hi hr
  unfold sBS
  (repeat' split) <;> first | exact ⟨Nat.le_refl _, Nat.le_refl _⟩ | trivial
theorem mn_sRS {nx : Nat} : Mnp (sRS nx) := by
  intro ls st al hi hr
  unfold sRS
  (repeat' split) <;> first | exact ⟨Nat.le_refl _, Nat.le_refl _⟩ | trivial
theorem mn_sLen {nx : Nat} : Mnp (sLen nx) := by
  intro ls st al hi hr
  unfold sLen
  (repeat' split) <;> first | exact ⟨Nat.le_refl _, Nat.le_refl _⟩ | trivial
theorem mn_sCp {nx : Nat} : Mnp (sCp nx) := by
  intro ls st al hi hr
  unfold sCp
  (repeat' split) <;> first | exact ⟨Nat.le_refl _, Nat.le_refl _⟩ | trivial
theorem mn_sCS {w : Bool} {k : Nat} {n : Nat} {nx : Nat} : Mnp (sCS w k n nx) := by
  intro ls st al hi hr
  unfold sCS
  (repeat' split) <;> first | exact ⟨Nat.le_refl _, Nat.le_refl _⟩ | trivial
theorem mn_sCV {w : Bool} {k : Nat} {n : Nat} {c : Nat} {nx : Nat} : Mnp (sCV w k n c nx) := by
  intro ls st al hi hr
  unfold sCV
  (repeat' split) <;> first | exact ⟨Nat.le_refl _, Nat.le_refl _⟩ | trivial
theorem mn_sCI {k : Nat} {n : Nat} {nx : Nat} : Mnp (sCI k n nx) := by
  intro ls st al hi hr
  unfold sCI
  (repeat' split) <;> first | exact ⟨Nat.le_refl _, Nat.le_refl _⟩ | trivial
theorem mn_sCL {k : Nat} {c : Nat} {nx : Nat} : Mnp (sCL k c nx) := by
  intro ls st al hi hr
  unfold sCL
  (repeat' split) <;> first | exact ⟨Nat.le_refl _, Nat.le_refl _⟩ | trivial
theorem mn_sRI : Mnp (sRI) := by
  intro ls st al hi hr
  unfold sRI
  (repeat' split) <;> first | exact ⟨Nat.le_refl _, Nat.le_refl _⟩ | trivial
theorem mn_sRZ : Mnp (sRZ) := by
  intro ls st al hi hr
  unfold sRZ
  (repeat' split) <;> first | exact ⟨Nat.le_refl _, Nat.le_refl _⟩ | trivial
theorem mn_sRR : Mnp (sRR) := by
  intro ls st al hi hr
  unfold sRR
  (repeat' split) <;> first | exact ⟨Nat.le_refl _, Nat.le_refl _⟩ | trivial
theorem mn_sRV : Mnp (sRV) := by
  intro ls st al hi hr
  unfold sRV
  (repeat' split) <;> first | exact ⟨Nat.le_refl _, Nat.le_refl _⟩ | trivial
theorem mn_sTh : Mnp (sTh) := by
  intro ls st al hi hr
  unfold sTh
  (repeat' split) <;> first | exact ⟨Nat.le_refl _, Nat.le_refl _⟩ | trivial
theorem mn_sX : Mnp (sX) := by
  intro ls st al hi hr
  unfold sX
  (repeat' split) <;> first | exact ⟨Nat.le_refl _, Nat.le_refl _⟩ | trivial
theorem mn_sNE {nx : Nat} : Mnp (sNE nx) := by
  intro ls st al hi hr
  unfold sNE
  split
  · exact ⟨Nat.le_succ _, Nat.le_add_right _ _⟩
  · trivial
theorem mn_sNew {c n nx : Nat} : Mnp (sNew c n nx) := by intro ls st al hi hr; exact ⟨Nat.le_succ _, Nat.le_add_right _ _⟩
theorem mn_sNA {k nx : Nat} : Mnp (sNA k nx) := by
  intro ls st al hi hr
  unfold sNA
  (repeat' split) <;> first | exact ⟨Nat.le_succ _, Nat.le_add_right _ _⟩ | trivial
