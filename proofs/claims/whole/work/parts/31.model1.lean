/-! the reference: who is bound, what is open -/
def NONE : Int32 := -1000000
/-- an oath of o holds on a day, by a term (the reference's words) -/
def holdI (o day term : Int32) : Prop := ¬ o = -1000000 ∧ o ≤ day ∧ day ≤ o + term - 1
def isBI (k o day term set : Int32) (p : Nat) : Prop := holdI o day term ∧ ¬ k = 5 ∧ (¬ k = 2 ∨ p = 0 ∨ set >>> ((nI p - 1) &&& 31) &&& 1 = 1)
noncomputable section
def bndI (kd : Nat → Int32) (o : Nat → Int32) (day term : Int32) : Nat → Int32
  | 0 => 0
  | p + 1 => haveI := Classical.propDecidable (isBI (kd p) (o p) day term (bndI kd o day term p) p); if isBI (kd p) (o p) day term (bndI kd o day term p) p then bndI kd o day term p ||| (1 <<< (nI p &&& 31)) else bndI kd o day term p
def opnI (hm : Nat → Int32) (b : Int32) : Nat → Int32
  | 0 => 0
  | h + 1 => if hm h &&& b = 0 then opnI hm b h ||| (1 <<< (nI h &&& 31)) else opnI hm b h
end
/-- the parts of a realm, out of its row of numbers -/
def rK (ρ : Nat → Int32) (p : Nat) : Int32 := ρ (5 + 4 * p)
def rF (ρ : Nat → Int32) (p : Nat) : Int32 := ρ (5 + 4 * p + 1)
def rP (ρ : Nat → Int32) (p : Nat) : Int32 := ρ (5 + 4 * p + 2)
def rS (ρ : Nat → Int32) (p : Nat) : Int32 := ρ (5 + 4 * p + 3)
def rH (ρ : Nat → Int32) (h : Nat) : Int32 := ρ (37 + h)
/-- the first n places of an array become those of another -/
def cp (f g : Nat → Int32) (n : Nat) : Nat → Int32 := fun j => if j < n then f j else g j
theorem cp_0 (f g : Nat → Int32) : cp f g 0 = g := funext fun j => if_neg (Nat.not_lt_zero j)
theorem cp_s (f g : Nat → Int32) (n : Nat) : upd (cp f g n) n (f n) = cp f g (n + 1) := by
  funext j
  unfold upd cp
  by_cases h : j = n
  · subst h; simp
  · have : (j < n + 1) = (j < n) := propext (by omega)
    simp [h, this]
section M3
variable {d : Nat} {X : hX} {R : hR} {TH : hT} {N T Hn : Nat} {w : px_H} {Q : Option Value → px_H → Prop}
theorem l167 (hb : X 51 5 = 0) (hT : X 55 1 = nI T) (h8 : T ≤ 8) : ∀ (n p : Nat) (f : Nat → Int32), p + n = T → (wp (d + 2) 167 2 [some (.ref 51), some (.int (nI p))] [] (hp (upA X 59 f) R TH N) 0 Q ↔ Q none (hp (upA X 59 (cp (rS (X 55)) f T)) R TH N)) := by
  sorry
end M3
