/-! reads and writes of the cells that are there from the start -/
theorem G0 : (∀ (X : hX) (R : hR) (TH : hT) (N : Nat), px_fld (hp X R TH N) 0 [(10, 0)] 0 = some (.ref 1)) ∧
  (∀ (X : hX) (R : hR) (TH : hT) (N : Nat), px_fld (hp X R TH N) 0 [(10, 0)] 1 = some (.ref 2)) ∧
  (∀ (X : hX) (R : hR) (TH : hT) (N : Nat), px_fld (hp X R TH N) 0 [(10, 0)] 2 = some (.ref 4)) ∧
  (∀ (X : hX) (R : hR) (TH : hT) (N : Nat), px_fld (hp X R TH N) 0 [(10, 0)] 3 = some (.ref 9)) ∧
  (∀ (X : hX) (R : hR) (TH : hT) (N : Nat), px_fld (hp X R TH N) 0 [(10, 0)] 4 = some (.ref 14)) ∧
  (∀ (X : hX) (R : hR) (TH : hT) (N : Nat), px_fld (hp X R TH N) 0 [(10, 0)] 5 = some (.ref 15)) ∧
  (∀ (X : hX) (R : hR) (TH : hT) (N : Nat), px_fld (hp X R TH N) 0 [(10, 0)] 6 = some (.ref 23)) ∧
  (∀ (X : hX) (R : hR) (TH : hT) (N : Nat), px_fld (hp X R TH N) 0 [(10, 0)] 7 = some (.int (X 0 7))) ∧
  (∀ (X : hX) (R : hR) (TH : hT) (N : Nat) (v : Int32), px_pfd (hp X R TH N) 0 [(10, 0)] 7 (.int v) = some (hp (upA X 0 (upd (X 0) 7 v)) R TH N)) ∧
  (∀ (X : hX) (R : hR) (TH : hT) (N : Nat), px_fld (hp X R TH N) 0 [(10, 0)] 8 = some (.int (X 0 8))) ∧
  (∀ (X : hX) (R : hR) (TH : hT) (N : Nat) (v : Int32), px_pfd (hp X R TH N) 0 [(10, 0)] 8 (.int v) = some (hp (upA X 0 (upd (X 0) 8 v)) R TH N)) ∧
  (∀ (X : hX) (R : hR) (TH : hT) (N M : Nat), px_tgt (hp X R TH N) 0 [(10, M)] = some M) := ⟨fun _ _ _ _ => g_ref rfl rfl rfl, fun _ _ _ _ => g_ref rfl rfl rfl, fun _ _ _ _ => g_ref rfl rfl rfl, fun _ _ _ _ => g_ref rfl rfl rfl, fun _ _ _ _ => g_ref rfl rfl rfl, fun _ _ _ _ => g_ref rfl rfl rfl, fun _ _ _ _ => g_ref rfl rfl rfl, fun _ _ _ _ => g_int rfl rfl rfl, fun _ _ _ _ _ => p_int rfl rfl rfl, fun _ _ _ _ => g_int rfl rfl rfl, fun _ _ _ _ _ => p_int rfl rfl rfl, fun _ _ _ _ _ => c_tgt (ci := 10) rfl rfl⟩
theorem G2 : (∀ (X : hX) (R : hR) (TH : hT) (N : Nat), px_fld (hp X R TH N) 2 [(4, 0)] 0 = some (.ref 3)) ∧
  (∀ (X : hX) (R : hR) (TH : hT) (N : Nat), px_fld (hp X R TH N) 2 [(4, 0)] 1 = some (.int (X 2 1))) ∧
  (∀ (X : hX) (R : hR) (TH : hT) (N : Nat) (v : Int32), px_pfd (hp X R TH N) 2 [(4, 0)] 1 (.int v) = some (hp (upA X 2 (upd (X 2) 1 v)) R TH N)) ∧
  (∀ (X : hX) (R : hR) (TH : hT) (N : Nat), px_fld (hp X R TH N) 2 [(4, 0)] 2 = some (.int (X 2 2))) ∧
  (∀ (X : hX) (R : hR) (TH : hT) (N : Nat) (v : Int32), px_pfd (hp X R TH N) 2 [(4, 0)] 2 (.int v) = some (hp (upA X 2 (upd (X 2) 2 v)) R TH N)) ∧
  (∀ (X : hX) (R : hR) (TH : hT) (N : Nat), px_fld (hp X R TH N) 2 [(4, 0)] 3 = some (.int (X 2 3))) ∧
  (∀ (X : hX) (R : hR) (TH : hT) (N : Nat) (v : Int32), px_pfd (hp X R TH N) 2 [(4, 0)] 3 (.int v) = some (hp (upA X 2 (upd (X 2) 3 v)) R TH N)) ∧
  (∀ (X : hX) (R : hR) (TH : hT) (N : Nat), px_fld (hp X R TH N) 2 [(4, 0)] 4 = some (.int (X 2 4))) ∧
  (∀ (X : hX) (R : hR) (TH : hT) (N : Nat) (v : Int32), px_pfd (hp X R TH N) 2 [(4, 0)] 4 (.int v) = some (hp (upA X 2 (upd (X 2) 4 v)) R TH N)) ∧
  (∀ (X : hX) (R : hR) (TH : hT) (N M : Nat), px_tgt (hp X R TH N) 2 [(4, M)] = some M) := ⟨fun _ _ _ _ => g_ref rfl rfl rfl, fun _ _ _ _ => g_int rfl rfl rfl, fun _ _ _ _ _ => p_int rfl rfl rfl, fun _ _ _ _ => g_int rfl rfl rfl, fun _ _ _ _ _ => p_int rfl rfl rfl, fun _ _ _ _ => g_int rfl rfl rfl, fun _ _ _ _ _ => p_int rfl rfl rfl, fun _ _ _ _ => g_int rfl rfl rfl, fun _ _ _ _ _ => p_int rfl rfl rfl, fun _ _ _ _ _ => c_tgt (ci := 4) rfl rfl⟩
theorem G15 : (∀ (X : hX) (R : hR) (TH : hT) (N : Nat), px_fld (hp X R TH N) 15 [(2, 0)] 0 = some (.ref 16)) ∧
  (∀ (X : hX) (R : hR) (TH : hT) (N : Nat), px_fld (hp X R TH N) 15 [(2, 0)] 1 = some (.ref 21)) ∧
  (∀ (X : hX) (R : hR) (TH : hT) (N : Nat), px_fld (hp X R TH N) 15 [(2, 0)] 2 = some (.ref 22)) ∧
  (∀ (X : hX) (R : hR) (TH : hT) (N : Nat), px_fld (hp X R TH N) 15 [(2, 0)] 3 = some (.int (X 15 3))) ∧
  (∀ (X : hX) (R : hR) (TH : hT) (N : Nat) (v : Int32), px_pfd (hp X R TH N) 15 [(2, 0)] 3 (.int v) = some (hp (upA X 15 (upd (X 15) 3 v)) R TH N)) ∧
  (∀ (X : hX) (R : hR) (TH : hT) (N : Nat), px_fld (hp X R TH N) 15 [(2, 0)] 4 = some (.int (X 15 4))) ∧
  (∀ (X : hX) (R : hR) (TH : hT) (N : Nat) (v : Int32), px_pfd (hp X R TH N) 15 [(2, 0)] 4 (.int v) = some (hp (upA X 15 (upd (X 15) 4 v)) R TH N)) ∧
  (∀ (X : hX) (R : hR) (TH : hT) (N M : Nat), px_tgt (hp X R TH N) 15 [(2, M)] = some M) := ⟨fun _ _ _ _ => g_ref rfl rfl rfl, fun _ _ _ _ => g_ref rfl rfl rfl, fun _ _ _ _ => g_ref rfl rfl rfl, fun _ _ _ _ => g_int rfl rfl rfl, fun _ _ _ _ _ => p_int rfl rfl rfl, fun _ _ _ _ => g_int rfl rfl rfl, fun _ _ _ _ _ => p_int rfl rfl rfl, fun _ _ _ _ _ => c_tgt (ci := 2) rfl rfl⟩
theorem G23 : (∀ (X : hX) (R : hR) (TH : hT) (N : Nat), px_fld (hp X R TH N) 23 [(7, 0)] 0 = some (.ref 24)) ∧
  (∀ (X : hX) (R : hR) (TH : hT) (N : Nat), px_fld (hp X R TH N) 23 [(7, 0)] 1 = some (.int (X 23 1))) ∧
  (∀ (X : hX) (R : hR) (TH : hT) (N : Nat) (v : Int32), px_pfd (hp X R TH N) 23 [(7, 0)] 1 (.int v) = some (hp (upA X 23 (upd (X 23) 1 v)) R TH N)) ∧
  (∀ (X : hX) (R : hR) (TH : hT) (N M : Nat), px_tgt (hp X R TH N) 23 [(7, M)] = some M) := ⟨fun _ _ _ _ => g_ref rfl rfl rfl, fun _ _ _ _ => g_int rfl rfl rfl, fun _ _ _ _ _ => p_int rfl rfl rfl, fun _ _ _ _ _ => c_tgt (ci := 7) rfl rfl⟩
theorem G51 : (∀ (X : hX) (R : hR) (TH : hT) (N : Nat), px_fld (hp X R TH N) 51 [(11, 0)] 0 = some (.ref 52)) ∧
  (∀ (X : hX) (R : hR) (TH : hT) (N : Nat), px_fld (hp X R TH N) 51 [(11, 0)] 1 = some (.ref 53)) ∧
  (∀ (X : hX) (R : hR) (TH : hT) (N : Nat), px_fld (hp X R TH N) 51 [(11, 0)] 2 = some (.ref 54)) ∧
  (∀ (X : hX) (R : hR) (TH : hT) (N : Nat), px_fld (hp X R TH N) 51 [(11, 0)] 3 = some (.int (X 51 3))) ∧
  (∀ (X : hX) (R : hR) (TH : hT) (N : Nat) (v : Int32), px_pfd (hp X R TH N) 51 [(11, 0)] 3 (.int v) = some (hp (upA X 51 (upd (X 51) 3 v)) R TH N)) ∧
  (∀ (X : hX) (R : hR) (TH : hT) (N : Nat), px_fld (hp X R TH N) 51 [(11, 0)] 4 = some (.ref 55)) ∧
  (∀ (X : hX) (R : hR) (TH : hT) (N : Nat), px_fld (hp X R TH N) 51 [(11, 0)] 5 = some (.int (X 51 5))) ∧
  (∀ (X : hX) (R : hR) (TH : hT) (N : Nat) (v : Int32), px_pfd (hp X R TH N) 51 [(11, 0)] 5 (.int v) = some (hp (upA X 51 (upd (X 51) 5 v)) R TH N)) ∧
  (∀ (X : hX) (R : hR) (TH : hT) (N : Nat), px_fld (hp X R TH N) 51 [(11, 0)] 6 = some (.ref 56)) ∧
  (∀ (X : hX) (R : hR) (TH : hT) (N : Nat), px_fld (hp X R TH N) 51 [(11, 0)] 7 = some (.ref 57)) ∧
  (∀ (X : hX) (R : hR) (TH : hT) (N : Nat), px_fld (hp X R TH N) 51 [(11, 0)] 8 = some (.int (X 51 8))) ∧
  (∀ (X : hX) (R : hR) (TH : hT) (N : Nat) (v : Int32), px_pfd (hp X R TH N) 51 [(11, 0)] 8 (.int v) = some (hp (upA X 51 (upd (X 51) 8 v)) R TH N)) ∧
  (∀ (X : hX) (R : hR) (TH : hT) (N : Nat), px_fld (hp X R TH N) 51 [(11, 0)] 9 = some (.ref 58)) ∧
  (∀ (X : hX) (R : hR) (TH : hT) (N : Nat), px_fld (hp X R TH N) 51 [(11, 0)] 10 = some (.int (X 51 10))) ∧
  (∀ (X : hX) (R : hR) (TH : hT) (N : Nat) (v : Int32), px_pfd (hp X R TH N) 51 [(11, 0)] 10 (.int v) = some (hp (upA X 51 (upd (X 51) 10 v)) R TH N)) ∧
  (∀ (X : hX) (R : hR) (TH : hT) (N : Nat), px_fld (hp X R TH N) 51 [(11, 0)] 11 = some (.int (X 51 11))) ∧
  (∀ (X : hX) (R : hR) (TH : hT) (N : Nat) (v : Int32), px_pfd (hp X R TH N) 51 [(11, 0)] 11 (.int v) = some (hp (upA X 51 (upd (X 51) 11 v)) R TH N)) ∧
  (∀ (X : hX) (R : hR) (TH : hT) (N : Nat), px_fld (hp X R TH N) 51 [(11, 0)] 12 = some (.int (X 51 12))) ∧
  (∀ (X : hX) (R : hR) (TH : hT) (N : Nat) (v : Int32), px_pfd (hp X R TH N) 51 [(11, 0)] 12 (.int v) = some (hp (upA X 51 (upd (X 51) 12 v)) R TH N)) ∧
  (∀ (X : hX) (R : hR) (TH : hT) (N : Nat), px_fld (hp X R TH N) 51 [(11, 0)] 13 = some (.int (X 51 13))) ∧
  (∀ (X : hX) (R : hR) (TH : hT) (N : Nat) (v : Int32), px_pfd (hp X R TH N) 51 [(11, 0)] 13 (.int v) = some (hp (upA X 51 (upd (X 51) 13 v)) R TH N)) ∧
  (∀ (X : hX) (R : hR) (TH : hT) (N : Nat), px_fld (hp X R TH N) 51 [(11, 0)] 14 = some (.int (X 51 14))) ∧
  (∀ (X : hX) (R : hR) (TH : hT) (N : Nat) (v : Int32), px_pfd (hp X R TH N) 51 [(11, 0)] 14 (.int v) = some (hp (upA X 51 (upd (X 51) 14 v)) R TH N)) ∧
  (∀ (X : hX) (R : hR) (TH : hT) (N : Nat), px_fld (hp X R TH N) 51 [(11, 0)] 15 = some (.int (X 51 15))) ∧
  (∀ (X : hX) (R : hR) (TH : hT) (N : Nat) (v : Int32), px_pfd (hp X R TH N) 51 [(11, 0)] 15 (.int v) = some (hp (upA X 51 (upd (X 51) 15 v)) R TH N)) ∧
  (∀ (X : hX) (R : hR) (TH : hT) (N : Nat), px_fld (hp X R TH N) 51 [(11, 0)] 16 = some (.int (X 51 16))) ∧
  (∀ (X : hX) (R : hR) (TH : hT) (N : Nat) (v : Int32), px_pfd (hp X R TH N) 51 [(11, 0)] 16 (.int v) = some (hp (upA X 51 (upd (X 51) 16 v)) R TH N)) ∧
  (∀ (X : hX) (R : hR) (TH : hT) (N : Nat), px_fld (hp X R TH N) 51 [(11, 0)] 17 = some (.int (X 51 17))) ∧
  (∀ (X : hX) (R : hR) (TH : hT) (N : Nat) (v : Int32), px_pfd (hp X R TH N) 51 [(11, 0)] 17 (.int v) = some (hp (upA X 51 (upd (X 51) 17 v)) R TH N)) ∧
  (∀ (X : hX) (R : hR) (TH : hT) (N : Nat), px_fld (hp X R TH N) 51 [(11, 0)] 18 = some (.ref 59)) ∧
  (∀ (X : hX) (R : hR) (TH : hT) (N : Nat), px_fld (hp X R TH N) 51 [(11, 0)] 19 = some (.ref 60)) ∧
  (∀ (X : hX) (R : hR) (TH : hT) (N : Nat), px_fld (hp X R TH N) 51 [(11, 0)] 20 = some (.int (X 51 20))) ∧
  (∀ (X : hX) (R : hR) (TH : hT) (N : Nat) (v : Int32), px_pfd (hp X R TH N) 51 [(11, 0)] 20 (.int v) = some (hp (upA X 51 (upd (X 51) 20 v)) R TH N)) ∧
  (∀ (X : hX) (R : hR) (TH : hT) (N : Nat), px_fld (hp X R TH N) 51 [(11, 0)] 21 = some (.ref 61)) ∧
  (∀ (X : hX) (R : hR) (TH : hT) (N : Nat), px_fld (hp X R TH N) 51 [(11, 0)] 22 = some (.int (X 51 22))) ∧
  (∀ (X : hX) (R : hR) (TH : hT) (N : Nat) (v : Int32), px_pfd (hp X R TH N) 51 [(11, 0)] 22 (.int v) = some (hp (upA X 51 (upd (X 51) 22 v)) R TH N)) ∧
  (∀ (X : hX) (R : hR) (TH : hT) (N M : Nat), px_tgt (hp X R TH N) 51 [(11, M)] = some M) := ⟨fun _ _ _ _ => g_ref rfl rfl rfl, fun _ _ _ _ => g_ref rfl rfl rfl, fun _ _ _ _ => g_ref rfl rfl rfl, fun _ _ _ _ => g_int rfl rfl rfl, fun _ _ _ _ _ => p_int rfl rfl rfl, fun _ _ _ _ => g_ref rfl rfl rfl, fun _ _ _ _ => g_int rfl rfl rfl, fun _ _ _ _ _ => p_int rfl rfl rfl, fun _ _ _ _ => g_ref rfl rfl rfl, fun _ _ _ _ => g_ref rfl rfl rfl, fun _ _ _ _ => g_int rfl rfl rfl, fun _ _ _ _ _ => p_int rfl rfl rfl, fun _ _ _ _ => g_ref rfl rfl rfl, fun _ _ _ _ => g_int rfl rfl rfl, fun _ _ _ _ _ => p_int rfl rfl rfl, fun _ _ _ _ => g_int rfl rfl rfl, fun _ _ _ _ _ => p_int rfl rfl rfl, fun _ _ _ _ => g_int rfl rfl rfl, fun _ _ _ _ _ => p_int rfl rfl rfl, fun _ _ _ _ => g_int rfl rfl rfl, fun _ _ _ _ _ => p_int rfl rfl rfl, fun _ _ _ _ => g_int rfl rfl rfl, fun _ _ _ _ _ => p_int rfl rfl rfl, fun _ _ _ _ => g_int rfl rfl rfl, fun _ _ _ _ _ => p_int rfl rfl rfl, fun _ _ _ _ => g_int rfl rfl rfl, fun _ _ _ _ _ => p_int rfl rfl rfl, fun _ _ _ _ => g_int rfl rfl rfl, fun _ _ _ _ _ => p_int rfl rfl rfl, fun _ _ _ _ => g_ref rfl rfl rfl, fun _ _ _ _ => g_ref rfl rfl rfl, fun _ _ _ _ => g_int rfl rfl rfl, fun _ _ _ _ _ => p_int rfl rfl rfl, fun _ _ _ _ => g_ref rfl rfl rfl, fun _ _ _ _ => g_int rfl rfl rfl, fun _ _ _ _ _ => p_int rfl rfl rfl, fun _ _ _ _ _ => c_tgt (ci := 11) rfl rfl⟩
def isRow (p : Nat) : Prop := p = 25 ∨ p = 27 ∨ p = 29 ∨ p = 31 ∨ p = 33 ∨ p = 35 ∨ p = 37 ∨ p = 39
def isRealm (p : Nat) : Prop := p = 4 ∨ p = 9 ∨ p = 16 ∨ p = 41 ∨ p = 46
theorem lay_row {p : Nat} (h : isRow p) : h_lay[p]? = some (.inr (.inr (6, [some (p + 1), none, none]))) ∧ h_lay[p + 1]? = some (.inl (.int, 40)) := by
  rcases h with h | h | h | h | h | h | h | h <;> subst h <;> exact ⟨rfl, rfl⟩
theorem lay_realm {p : Nat} (h : isRealm p) : h_lay[p]? = some (.inr (.inr (5, [some (p + 1), some (p + 2), some (p + 3), some (p + 4), none, none, none, none, none, none]))) ∧ h_lay[p + 1]? = some (.inr (.inl ("AllSworn$Thing", 8))) ∧ h_lay[p + 2]? = some (.inl (.int, 8)) ∧ h_lay[p + 3]? = some (.inl (.int, 8)) ∧ h_lay[p + 4]? = some (.inl (.int, 96)) := by
  rcases h with h | h | h | h | h <;> subst h <;> exact ⟨rfl, rfl, rfl, rfl, rfl⟩
theorem GRow {p : Nat} (h : isRow p) : (∀ (X : hX) (R : hR) (TH : hT) (N : Nat), px_fld (hp X R TH N) p [(6, 0)] 0 = some (.ref (p + 1))) ∧
  (∀ (X : hX) (R : hR) (TH : hT) (N : Nat), px_fld (hp X R TH N) p [(6, 0)] 1 = some (.int (X p 1))) ∧
  (∀ (X : hX) (R : hR) (TH : hT) (N : Nat) (v : Int32), px_pfd (hp X R TH N) p [(6, 0)] 1 (.int v) = some (hp (upA X p (upd (X p) 1 v)) R TH N)) ∧
  (∀ (X : hX) (R : hR) (TH : hT) (N : Nat), px_fld (hp X R TH N) p [(6, 0)] 2 = some (.int (X p 2))) ∧
  (∀ (X : hX) (R : hR) (TH : hT) (N : Nat) (v : Int32), px_pfd (hp X R TH N) p [(6, 0)] 2 (.int v) = some (hp (upA X p (upd (X p) 2 v)) R TH N)) ∧
  (∀ (X : hX) (R : hR) (TH : hT) (N M : Nat), px_tgt (hp X R TH N) p [(6, M)] = some M) := ⟨fun _ _ _ _ => g_ref (lay_row h).1 rfl rfl, fun _ _ _ _ => g_int (lay_row h).1 rfl rfl, fun _ _ _ _ _ => p_int (lay_row h).1 rfl rfl, fun _ _ _ _ => g_int (lay_row h).1 rfl rfl, fun _ _ _ _ _ => p_int (lay_row h).1 rfl rfl, fun _ _ _ _ _ => c_tgt (ci := 6) (lay_row h).1 rfl⟩
theorem GRealm {p : Nat} (h : isRealm p) : (∀ (X : hX) (R : hR) (TH : hT) (N : Nat), px_fld (hp X R TH N) p [(5, 0)] 0 = some (.ref (p + 1))) ∧
  (∀ (X : hX) (R : hR) (TH : hT) (N : Nat), px_fld (hp X R TH N) p [(5, 0)] 1 = some (.ref (p + 2))) ∧
  (∀ (X : hX) (R : hR) (TH : hT) (N : Nat), px_fld (hp X R TH N) p [(5, 0)] 2 = some (.ref (p + 3))) ∧
  (∀ (X : hX) (R : hR) (TH : hT) (N : Nat), px_fld (hp X R TH N) p [(5, 0)] 3 = some (.ref (p + 4))) ∧
  (∀ (X : hX) (R : hR) (TH : hT) (N : Nat), px_fld (hp X R TH N) p [(5, 0)] 4 = some (.int (X p 4))) ∧
  (∀ (X : hX) (R : hR) (TH : hT) (N : Nat) (v : Int32), px_pfd (hp X R TH N) p [(5, 0)] 4 (.int v) = some (hp (upA X p (upd (X p) 4 v)) R TH N)) ∧
  (∀ (X : hX) (R : hR) (TH : hT) (N : Nat), px_fld (hp X R TH N) p [(5, 0)] 5 = some (.int (X p 5))) ∧
  (∀ (X : hX) (R : hR) (TH : hT) (N : Nat) (v : Int32), px_pfd (hp X R TH N) p [(5, 0)] 5 (.int v) = some (hp (upA X p (upd (X p) 5 v)) R TH N)) ∧
  (∀ (X : hX) (R : hR) (TH : hT) (N : Nat), px_fld (hp X R TH N) p [(5, 0)] 6 = some (.int (X p 6))) ∧
  (∀ (X : hX) (R : hR) (TH : hT) (N : Nat) (v : Int32), px_pfd (hp X R TH N) p [(5, 0)] 6 (.int v) = some (hp (upA X p (upd (X p) 6 v)) R TH N)) ∧
  (∀ (X : hX) (R : hR) (TH : hT) (N : Nat), px_fld (hp X R TH N) p [(5, 0)] 7 = some (.int (X p 7))) ∧
  (∀ (X : hX) (R : hR) (TH : hT) (N : Nat) (v : Int32), px_pfd (hp X R TH N) p [(5, 0)] 7 (.int v) = some (hp (upA X p (upd (X p) 7 v)) R TH N)) ∧
  (∀ (X : hX) (R : hR) (TH : hT) (N : Nat), px_fld (hp X R TH N) p [(5, 0)] 8 = some (.int (X p 8))) ∧
  (∀ (X : hX) (R : hR) (TH : hT) (N : Nat) (v : Int32), px_pfd (hp X R TH N) p [(5, 0)] 8 (.int v) = some (hp (upA X p (upd (X p) 8 v)) R TH N)) ∧
  (∀ (X : hX) (R : hR) (TH : hT) (N : Nat), px_fld (hp X R TH N) p [(5, 0)] 9 = some (.int (X p 9))) ∧
  (∀ (X : hX) (R : hR) (TH : hT) (N : Nat) (v : Int32), px_pfd (hp X R TH N) p [(5, 0)] 9 (.int v) = some (hp (upA X p (upd (X p) 9 v)) R TH N)) ∧
  (∀ (X : hX) (R : hR) (TH : hT) (N M : Nat), px_tgt (hp X R TH N) p [(5, M)] = some M) := ⟨fun _ _ _ _ => g_ref (lay_realm h).1 rfl rfl, fun _ _ _ _ => g_ref (lay_realm h).1 rfl rfl, fun _ _ _ _ => g_ref (lay_realm h).1 rfl rfl, fun _ _ _ _ => g_ref (lay_realm h).1 rfl rfl, fun _ _ _ _ => g_int (lay_realm h).1 rfl rfl, fun _ _ _ _ _ => p_int (lay_realm h).1 rfl rfl, fun _ _ _ _ => g_int (lay_realm h).1 rfl rfl, fun _ _ _ _ _ => p_int (lay_realm h).1 rfl rfl, fun _ _ _ _ => g_int (lay_realm h).1 rfl rfl, fun _ _ _ _ _ => p_int (lay_realm h).1 rfl rfl, fun _ _ _ _ => g_int (lay_realm h).1 rfl rfl, fun _ _ _ _ _ => p_int (lay_realm h).1 rfl rfl, fun _ _ _ _ => g_int (lay_realm h).1 rfl rfl, fun _ _ _ _ _ => p_int (lay_realm h).1 rfl rfl, fun _ _ _ _ => g_int (lay_realm h).1 rfl rfl, fun _ _ _ _ _ => p_int (lay_realm h).1 rfl rfl, fun _ _ _ _ _ => c_tgt (ci := 5) (lay_realm h).1 rfl⟩
theorem A3_g {X : hX} {R : hR} {TH : hT} {N j : Nat} (h : j < 120) : px_ald (hp X R TH N) 3 (nI j) .int = some (X 3 j) := a_get (ty := .int) (n := 120) rfl h (by decide)
theorem A3_p {X : hX} {R : hR} {TH : hT} {N j : Nat} {v : Int32} (h : j < 120) : px_ast (hp X R TH N) 3 (nI j) v .int = some (hp (upA X 3 (upd (X 3) j v)) R TH N) := a_put (ty := .int) (n := 120) rfl h (by decide)
theorem A6_g {X : hX} {R : hR} {TH : hT} {N j : Nat} (h : j < 8) : px_ald (hp X R TH N) 6 (nI j) .int = some (X 6 j) := a_get (ty := .int) (n := 8) rfl h (by decide)
theorem A6_p {X : hX} {R : hR} {TH : hT} {N j : Nat} {v : Int32} (h : j < 8) : px_ast (hp X R TH N) 6 (nI j) v .int = some (hp (upA X 6 (upd (X 6) j v)) R TH N) := a_put (ty := .int) (n := 8) rfl h (by decide)
theorem A24_g {X : hX} {R : hR} {TH : hT} {N j : Nat} (h : j < 16) : px_ald (hp X R TH N) 24 (nI j) .int = some (X 24 j) := a_get (ty := .int) (n := 16) rfl h (by decide)
theorem A24_p {X : hX} {R : hR} {TH : hT} {N j : Nat} {v : Int32} (h : j < 16) : px_ast (hp X R TH N) 24 (nI j) v .int = some (hp (upA X 24 (upd (X 24) j v)) R TH N) := a_put (ty := .int) (n := 16) rfl h (by decide)
theorem A21_g {X : hX} {R : hR} {TH : hT} {N j : Nat} (h : j < 4) : px_ald (hp X R TH N) 21 (nI j) .int = some (X 21 j) := a_get (ty := .int) (n := 4) rfl h (by decide)
theorem A21_p {X : hX} {R : hR} {TH : hT} {N j : Nat} {v : Int32} (h : j < 4) : px_ast (hp X R TH N) 21 (nI j) v .int = some (hp (upA X 21 (upd (X 21) j v)) R TH N) := a_put (ty := .int) (n := 4) rfl h (by decide)
theorem A22_g {X : hX} {R : hR} {TH : hT} {N j : Nat} (h : j < 4) : px_ald (hp X R TH N) 22 (nI j) .int = some (X 22 j) := a_get (ty := .int) (n := 4) rfl h (by decide)
theorem A22_p {X : hX} {R : hR} {TH : hT} {N j : Nat} {v : Int32} (h : j < 4) : px_ast (hp X R TH N) 22 (nI j) v .int = some (hp (upA X 22 (upd (X 22) j v)) R TH N) := a_put (ty := .int) (n := 4) rfl h (by decide)
theorem A52_g {X : hX} {R : hR} {TH : hT} {N j : Nat} (h : j < 8) : px_ald (hp X R TH N) 52 (nI j) .int = some (X 52 j) := a_get (ty := .int) (n := 8) rfl h (by decide)
theorem A52_p {X : hX} {R : hR} {TH : hT} {N j : Nat} {v : Int32} (h : j < 8) : px_ast (hp X R TH N) 52 (nI j) v .int = some (hp (upA X 52 (upd (X 52) j v)) R TH N) := a_put (ty := .int) (n := 8) rfl h (by decide)
theorem A53_g {X : hX} {R : hR} {TH : hT} {N j : Nat} (h : j < 8) : px_ald (hp X R TH N) 53 (nI j) .int = some (X 53 j) := a_get (ty := .int) (n := 8) rfl h (by decide)
theorem A53_p {X : hX} {R : hR} {TH : hT} {N j : Nat} {v : Int32} (h : j < 8) : px_ast (hp X R TH N) 53 (nI j) v .int = some (hp (upA X 53 (upd (X 53) j v)) R TH N) := a_put (ty := .int) (n := 8) rfl h (by decide)
theorem A54_g {X : hX} {R : hR} {TH : hT} {N j : Nat} (h : j < 320) : px_ald (hp X R TH N) 54 (nI j) .int = some (X 54 j) := a_get (ty := .int) (n := 320) rfl h (by decide)
theorem A54_p {X : hX} {R : hR} {TH : hT} {N j : Nat} {v : Int32} (h : j < 320) : px_ast (hp X R TH N) 54 (nI j) v .int = some (hp (upA X 54 (upd (X 54) j v)) R TH N) := a_put (ty := .int) (n := 320) rfl h (by decide)
theorem A55_g {X : hX} {R : hR} {TH : hT} {N j : Nat} (h : j < 180) : px_ald (hp X R TH N) 55 (nI j) .int = some (X 55 j) := a_get (ty := .int) (n := 180) rfl h (by decide)
theorem A55_p {X : hX} {R : hR} {TH : hT} {N j : Nat} {v : Int32} (h : j < 180) : px_ast (hp X R TH N) 55 (nI j) v .int = some (hp (upA X 55 (upd (X 55) j v)) R TH N) := a_put (ty := .int) (n := 180) rfl h (by decide)
theorem A57_g {X : hX} {R : hR} {TH : hT} {N j : Nat} (h : j < 96) : px_ald (hp X R TH N) 57 (nI j) .int = some (X 57 j) := a_get (ty := .int) (n := 96) rfl h (by decide)
theorem A57_p {X : hX} {R : hR} {TH : hT} {N j : Nat} {v : Int32} (h : j < 96) : px_ast (hp X R TH N) 57 (nI j) v .int = some (hp (upA X 57 (upd (X 57) j v)) R TH N) := a_put (ty := .int) (n := 96) rfl h (by decide)
theorem A59_g {X : hX} {R : hR} {TH : hT} {N j : Nat} (h : j < 8) : px_ald (hp X R TH N) 59 (nI j) .int = some (X 59 j) := a_get (ty := .int) (n := 8) rfl h (by decide)
theorem A59_p {X : hX} {R : hR} {TH : hT} {N j : Nat} {v : Int32} (h : j < 8) : px_ast (hp X R TH N) 59 (nI j) v .int = some (hp (upA X 59 (upd (X 59) j v)) R TH N) := a_put (ty := .int) (n := 8) rfl h (by decide)
theorem A60_g {X : hX} {R : hR} {TH : hT} {N j : Nat} (h : j < 4) : px_ald (hp X R TH N) 60 (nI j) .int = some (X 60 j) := a_get (ty := .int) (n := 4) rfl h (by decide)
theorem A60_p {X : hX} {R : hR} {TH : hT} {N j : Nat} {v : Int32} (h : j < 4) : px_ast (hp X R TH N) 60 (nI j) v .int = some (hp (upA X 60 (upd (X 60) j v)) R TH N) := a_put (ty := .int) (n := 4) rfl h (by decide)
theorem A61_g {X : hX} {R : hR} {TH : hT} {N j : Nat} (h : j < 16) : px_ald (hp X R TH N) 61 (nI j) .int = some (X 61 j) := a_get (ty := .int) (n := 16) rfl h (by decide)
theorem A61_p {X : hX} {R : hR} {TH : hT} {N j : Nat} {v : Int32} (h : j < 16) : px_ast (hp X R TH N) 61 (nI j) v .int = some (hp (upA X 61 (upd (X 61) j v)) R TH N) := a_put (ty := .int) (n := 16) rfl h (by decide)
theorem A56_g {X : hX} {R : hR} {TH : hT} {N j : Nat} (h : j < 2) : px_bld (hp X R TH N) 56 (nI j) = some (X 56 j) := b_get (ty := .boolean) (n := 2) rfl (by decide) h (by decide)
theorem A56_p {X : hX} {R : hR} {TH : hT} {N j : Nat} {v : Int32} (h : j < 2) : px_bst (hp X R TH N) 56 (nI j) v = some (hp (upA X 56 (upd (X 56) j (vp_nar .boolean v))) R TH N) := b_put (ty := .boolean) (n := 2) rfl (by decide) h (by decide)
theorem A58_g {X : hX} {R : hR} {TH : hT} {N j : Nat} (h : j < 120) : px_bld (hp X R TH N) 58 (nI j) = some (X 58 j) := b_get (ty := .byte) (n := 120) rfl (by decide) h (by decide)
theorem A58_p {X : hX} {R : hR} {TH : hT} {N j : Nat} {v : Int32} (h : j < 120) : px_bst (hp X R TH N) 58 (nI j) v = some (hp (upA X 58 (upd (X 58) j (vp_nar .byte v))) R TH N) := b_put (ty := .byte) (n := 120) rfl (by decide) h (by decide)
