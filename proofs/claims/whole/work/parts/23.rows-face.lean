/-! rows of the pure machine: face -/
/-- AllSworn.<init>()V heads: [88, 115] -/
theorem S97 : (∀ (d : Nat) (v0 : Value) (w : px_H) (Q : Option Value → px_H → Prop), wc d 97 [v0] w Q ↔ wp d 97 0 [some v0, none] [] w 0 Q) ∧
  (∀ (d : Nat) (l1 : Option Value) (a : Nat) (w : px_H) (k : Nat) (Q : Option Value → px_H → Prop), wp d 97 0 [some (.ref a), l1] [] w k Q ↔ wp d 97 1 [some (.ref a), l1] [.ref a] w k Q) ∧
  (∀ (d : Nat) (l0 l1 : Option Value) (a : Nat) (w : px_H) (k : Nat) (Q : Option Value → px_H → Prop), wp d 97 1 [l0, l1] [.ref a] w k Q ↔ wp d 97 4 [l0, l1] [] w k Q) ∧
  (∀ (d : Nat) (l1 : Option Value) (a : Nat) (w : px_H) (k : Nat) (Q : Option Value → px_H → Prop), wp d 97 4 [some (.ref a), l1] [] w k Q ↔ wp d 97 5 [some (.ref a), l1] [.ref a] w k Q) ∧
  (∀ (d : Nat) (l0 l1 : Option Value) (s0 : Value)  (w : px_H) (k : Nat) (Q : Option Value → px_H → Prop), wp d 97 5 [l0, l1] [s0] w k Q ↔ wp d 97 7 [l0, l1] [.int 8, s0] w k Q) ∧
  (∀ (d : Nat) (l0 l1 : Option Value) (s1 : Value)  (w : px_H) (k : Nat) (Q : Option Value → px_H → Prop) (hk : k + 1 ≤ 50), wp d 97 7 [l0, l1] [.int 8, s1] w k Q ↔ wp d 97 10 [l0, l1] [.ref w.1, s1] (px_add w (.inr (.inl (.object "AllSworn$Row", 8, fun _ => none)))) (k + 1) Q) ∧
  (∀ (d : Nat) (l0 l1 : Option Value) (a b : Nat) (w : px_H) (k : Nat) (Q : Option Value → px_H → Prop), wp d 97 10 [l0, l1] [.ref b, .ref a] w k Q ↔ px_op (px_pfd w a [(10, 0)] 0 (.ref b)) (fun w' => wp d 97 13 [l0, l1] [] w' k Q)) ∧
  (∀ (d : Nat) (l1 : Option Value) (a : Nat) (w : px_H) (k : Nat) (Q : Option Value → px_H → Prop), wp d 97 13 [some (.ref a), l1] [] w k Q ↔ wp d 97 14 [some (.ref a), l1] [.ref a] w k Q) ∧
  (∀ (d : Nat) (l0 l1 : Option Value) (s0 : Value)  (w : px_H) (k : Nat) (Q : Option Value → px_H → Prop) (hk : k + 1 ≤ 50), wp d 97 14 [l0, l1] [s0] w k Q ↔ wp d 97 17 [l0, l1] [.ref w.1, s0] (px_add w (.inr (.inr (4, [.null, .int 0, .int 0, .int 0, .int 0])))) (k + 1) Q) ∧
  (∀ (d : Nat) (l0 l1 : Option Value) (s0 s1 : Value)  (w : px_H) (k : Nat) (Q : Option Value → px_H → Prop), wp d 97 17 [l0, l1] [s0, s1] w k Q ↔ wp d 97 18 [l0, l1] [s0, s0, s1] w k Q) ∧
  (∀ (d : Nat) (l0 l1 : Option Value) (s1 s2 : Value)  (b : Nat) (w : px_H) (k : Nat) (Q : Option Value → px_H → Prop) (hk : k + 1 ≤ 50), wp (d + 1) 97 18 [l0, l1] [.ref b, s1, s2] w k Q ↔ wc d 30 [.ref b] w (fun r w' => wp (d + 1) 97 21 [l0, l1] (r.toList ++ [s1, s2]) w' (k + 1) Q)) ∧
  (∀ (d : Nat) (l0 l1 : Option Value) (a b : Nat) (w : px_H) (k : Nat) (Q : Option Value → px_H → Prop), wp d 97 21 [l0, l1] [.ref b, .ref a] w k Q ↔ px_op (px_pfd w a [(10, 0)] 1 (.ref b)) (fun w' => wp d 97 24 [l0, l1] [] w' k Q)) ∧
  (∀ (d : Nat) (l1 : Option Value) (a : Nat) (w : px_H) (k : Nat) (Q : Option Value → px_H → Prop), wp d 97 24 [some (.ref a), l1] [] w k Q ↔ wp d 97 25 [some (.ref a), l1] [.ref a] w k Q) ∧
  (∀ (d : Nat) (l0 l1 : Option Value) (s0 : Value)  (w : px_H) (k : Nat) (Q : Option Value → px_H → Prop) (hk : k + 1 ≤ 50), wp d 97 25 [l0, l1] [s0] w k Q ↔ wp d 97 28 [l0, l1] [.ref w.1, s0] (px_add w (.inr (.inr (5, [.null, .null, .null, .null, .int 0, .int 0, .int 0, .int 0, .int 0, .int 0])))) (k + 1) Q) ∧
  (∀ (d : Nat) (l0 l1 : Option Value) (s0 s1 : Value)  (w : px_H) (k : Nat) (Q : Option Value → px_H → Prop), wp d 97 28 [l0, l1] [s0, s1] w k Q ↔ wp d 97 29 [l0, l1] [s0, s0, s1] w k Q) ∧
  (∀ (d : Nat) (l0 l1 : Option Value) (s1 s2 : Value)  (b : Nat) (w : px_H) (k : Nat) (Q : Option Value → px_H → Prop) (hk : k + 4 ≤ 50), wp (d + 1) 97 29 [l0, l1] [.ref b, s1, s2] w k Q ↔ wc d 41 [.ref b] w (fun r w' => wp (d + 1) 97 32 [l0, l1] (r.toList ++ [s1, s2]) w' (k + 4) Q)) ∧
  (∀ (d : Nat) (l0 l1 : Option Value) (a b : Nat) (w : px_H) (k : Nat) (Q : Option Value → px_H → Prop), wp d 97 32 [l0, l1] [.ref b, .ref a] w k Q ↔ px_op (px_pfd w a [(10, 0)] 2 (.ref b)) (fun w' => wp d 97 35 [l0, l1] [] w' k Q)) ∧
  (∀ (d : Nat) (l1 : Option Value) (a : Nat) (w : px_H) (k : Nat) (Q : Option Value → px_H → Prop), wp d 97 35 [some (.ref a), l1] [] w k Q ↔ wp d 97 36 [some (.ref a), l1] [.ref a] w k Q) ∧
  (∀ (d : Nat) (l0 l1 : Option Value) (s0 : Value)  (w : px_H) (k : Nat) (Q : Option Value → px_H → Prop) (hk : k + 1 ≤ 50), wp d 97 36 [l0, l1] [s0] w k Q ↔ wp d 97 39 [l0, l1] [.ref w.1, s0] (px_add w (.inr (.inr (5, [.null, .null, .null, .null, .int 0, .int 0, .int 0, .int 0, .int 0, .int 0])))) (k + 1) Q) ∧
  (∀ (d : Nat) (l0 l1 : Option Value) (s0 s1 : Value)  (w : px_H) (k : Nat) (Q : Option Value → px_H → Prop), wp d 97 39 [l0, l1] [s0, s1] w k Q ↔ wp d 97 40 [l0, l1] [s0, s0, s1] w k Q) ∧
  (∀ (d : Nat) (l0 l1 : Option Value) (s1 s2 : Value)  (b : Nat) (w : px_H) (k : Nat) (Q : Option Value → px_H → Prop) (hk : k + 4 ≤ 50), wp (d + 1) 97 40 [l0, l1] [.ref b, s1, s2] w k Q ↔ wc d 41 [.ref b] w (fun r w' => wp (d + 1) 97 43 [l0, l1] (r.toList ++ [s1, s2]) w' (k + 4) Q)) ∧
  (∀ (d : Nat) (l0 l1 : Option Value) (a b : Nat) (w : px_H) (k : Nat) (Q : Option Value → px_H → Prop), wp d 97 43 [l0, l1] [.ref b, .ref a] w k Q ↔ px_op (px_pfd w a [(10, 0)] 3 (.ref b)) (fun w' => wp d 97 46 [l0, l1] [] w' k Q)) ∧
  (∀ (d : Nat) (l1 : Option Value) (a : Nat) (w : px_H) (k : Nat) (Q : Option Value → px_H → Prop), wp d 97 46 [some (.ref a), l1] [] w k Q ↔ wp d 97 47 [some (.ref a), l1] [.ref a] w k Q) ∧
  (∀ (d : Nat) (l0 l1 : Option Value) (s0 : Value)  (w : px_H) (k : Nat) (Q : Option Value → px_H → Prop), wp d 97 47 [l0, l1] [s0] w k Q ↔ wp d 97 48 [l0, l1] [.int 2, s0] w k Q) ∧
  (∀ (d : Nat) (l0 l1 : Option Value) (s1 : Value)  (w : px_H) (k : Nat) (Q : Option Value → px_H → Prop) (hk : k + 1 ≤ 50), wp d 97 48 [l0, l1] [.int 2, s1] w k Q ↔ wp d 97 51 [l0, l1] [.ref w.1, s1] (px_add w (.inr (.inl (.object "AllSworn$Realm", 2, fun _ => none)))) (k + 1) Q) ∧
  (∀ (d : Nat) (l0 l1 : Option Value) (a b : Nat) (w : px_H) (k : Nat) (Q : Option Value → px_H → Prop), wp d 97 51 [l0, l1] [.ref b, .ref a] w k Q ↔ px_op (px_pfd w a [(10, 0)] 4 (.ref b)) (fun w' => wp d 97 54 [l0, l1] [] w' k Q)) ∧
  (∀ (d : Nat) (l1 : Option Value) (a : Nat) (w : px_H) (k : Nat) (Q : Option Value → px_H → Prop), wp d 97 54 [some (.ref a), l1] [] w k Q ↔ wp d 97 55 [some (.ref a), l1] [.ref a] w k Q) ∧
  (∀ (d : Nat) (l0 l1 : Option Value) (s0 : Value)  (w : px_H) (k : Nat) (Q : Option Value → px_H → Prop) (hk : k + 1 ≤ 50), wp d 97 55 [l0, l1] [s0] w k Q ↔ wp d 97 58 [l0, l1] [.ref w.1, s0] (px_add w (.inr (.inr (2, [.null, .null, .null, .int 0, .int 0])))) (k + 1) Q) ∧
  (∀ (d : Nat) (l0 l1 : Option Value) (s0 s1 : Value)  (w : px_H) (k : Nat) (Q : Option Value → px_H → Prop), wp d 97 58 [l0, l1] [s0, s1] w k Q ↔ wp d 97 59 [l0, l1] [s0, s0, s1] w k Q) ∧
  (∀ (d : Nat) (l0 l1 : Option Value) (s1 s2 : Value)  (b : Nat) (w : px_H) (k : Nat) (Q : Option Value → px_H → Prop) (hk : k + 7 ≤ 50), wp (d + 1) 97 59 [l0, l1] [.ref b, s1, s2] w k Q ↔ wc d 12 [.ref b] w (fun r w' => wp (d + 1) 97 62 [l0, l1] (r.toList ++ [s1, s2]) w' (k + 7) Q)) ∧
  (∀ (d : Nat) (l0 l1 : Option Value) (a b : Nat) (w : px_H) (k : Nat) (Q : Option Value → px_H → Prop), wp d 97 62 [l0, l1] [.ref b, .ref a] w k Q ↔ px_op (px_pfd w a [(10, 0)] 5 (.ref b)) (fun w' => wp d 97 65 [l0, l1] [] w' k Q)) ∧
  (∀ (d : Nat) (l1 : Option Value) (a : Nat) (w : px_H) (k : Nat) (Q : Option Value → px_H → Prop), wp d 97 65 [some (.ref a), l1] [] w k Q ↔ wp d 97 66 [some (.ref a), l1] [.ref a] w k Q) ∧
  (∀ (d : Nat) (l0 l1 : Option Value) (s0 : Value)  (w : px_H) (k : Nat) (Q : Option Value → px_H → Prop) (hk : k + 1 ≤ 50), wp d 97 66 [l0, l1] [s0] w k Q ↔ wp d 97 69 [l0, l1] [.ref w.1, s0] (px_add w (.inr (.inr (7, [.null, .int 0])))) (k + 1) Q) ∧
  (∀ (d : Nat) (l0 l1 : Option Value) (s0 s1 : Value)  (w : px_H) (k : Nat) (Q : Option Value → px_H → Prop), wp d 97 69 [l0, l1] [s0, s1] w k Q ↔ wp d 97 70 [l0, l1] [s0, s0, s1] w k Q) ∧
  (∀ (d : Nat) (l0 l1 : Option Value) (s1 s2 : Value)  (b : Nat) (w : px_H) (k : Nat) (Q : Option Value → px_H → Prop) (hk : k + 1 ≤ 50), wp (d + 1) 97 70 [l0, l1] [.ref b, s1, s2] w k Q ↔ wc d 83 [.ref b] w (fun r w' => wp (d + 1) 97 73 [l0, l1] (r.toList ++ [s1, s2]) w' (k + 1) Q)) ∧
  (∀ (d : Nat) (l0 l1 : Option Value) (a b : Nat) (w : px_H) (k : Nat) (Q : Option Value → px_H → Prop), wp d 97 73 [l0, l1] [.ref b, .ref a] w k Q ↔ px_op (px_pfd w a [(10, 0)] 6 (.ref b)) (fun w' => wp d 97 76 [l0, l1] [] w' k Q)) ∧
  (∀ (d : Nat) (l1 : Option Value) (a : Nat) (w : px_H) (k : Nat) (Q : Option Value → px_H → Prop), wp d 97 76 [some (.ref a), l1] [] w k Q ↔ wp d 97 77 [some (.ref a), l1] [.ref a] w k Q) ∧
  (∀ (d : Nat) (l0 l1 : Option Value) (s0 : Value)  (w : px_H) (k : Nat) (Q : Option Value → px_H → Prop), wp d 97 77 [l0, l1] [s0] w k Q ↔ wp d 97 78 [l0, l1] [.int 0, s0] w k Q) ∧
  (∀ (d : Nat) (l0 l1 : Option Value) (x : Int32) (a : Nat) (w : px_H) (k : Nat) (Q : Option Value → px_H → Prop), wp d 97 78 [l0, l1] [.int x, .ref a] w k Q ↔ px_op (px_pfd w a [(10, 0)] 7 (.int x)) (fun w' => wp d 97 81 [l0, l1] [] w' k Q)) ∧
  (∀ (d : Nat) (l1 : Option Value) (a : Nat) (w : px_H) (k : Nat) (Q : Option Value → px_H → Prop), wp d 97 81 [some (.ref a), l1] [] w k Q ↔ wp d 97 82 [some (.ref a), l1] [.ref a] w k Q) ∧
  (∀ (d : Nat) (l0 l1 : Option Value) (s0 : Value)  (w : px_H) (k : Nat) (Q : Option Value → px_H → Prop), wp d 97 82 [l0, l1] [s0] w k Q ↔ wp d 97 83 [l0, l1] [.int 0, s0] w k Q) ∧
  (∀ (d : Nat) (l0 l1 : Option Value) (x : Int32) (a : Nat) (w : px_H) (k : Nat) (Q : Option Value → px_H → Prop), wp d 97 83 [l0, l1] [.int x, .ref a] w k Q ↔ px_op (px_pfd w a [(10, 0)] 8 (.int x)) (fun w' => wp d 97 86 [l0, l1] [] w' k Q)) ∧
  (∀ (d : Nat) (l0 l1 : Option Value)  (w : px_H) (k : Nat) (Q : Option Value → px_H → Prop), wp d 97 86 [l0, l1] [] w k Q ↔ wp d 97 87 [l0, l1] [.int 0] w k Q) ∧
  (∀ (d : Nat) (l0 l1 : Option Value) (x : Int32) (w : px_H) (k : Nat) (Q : Option Value → px_H → Prop), wp d 97 87 [l0, l1] [.int x] w k Q ↔ wp d 97 88 [l0, some (.int x)] [] w k Q) ∧
  (∀ (d : Nat) (l0 l1 : Option Value) (s0 : Value)  (w : px_H) (k : Nat) (Q : Option Value → px_H → Prop), wp d 97 89 [l0, l1] [s0] w k Q ↔ wp d 97 91 [l0, l1] [.int 8, s0] w k Q) ∧
  (∀ (d : Nat) (l0 l1 : Option Value) (x y : Int32) (w : px_H) (k : Nat) (Q : Option Value → px_H → Prop), wp d 97 91 [l0, l1] [.int y, .int x] w k Q ↔ if y ≤ x then wp d 97 113 [l0, l1] [] w k Q else wp d 97 94 [l0, l1] [] w k Q) ∧
  (∀ (d : Nat) (l1 : Option Value) (a : Nat) (w : px_H) (k : Nat) (Q : Option Value → px_H → Prop), wp d 97 94 [some (.ref a), l1] [] w k Q ↔ wp d 97 95 [some (.ref a), l1] [.ref a] w k Q) ∧
  (∀ (d : Nat) (l0 l1 : Option Value) (a : Nat) (w : px_H) (k : Nat) (Q : Option Value → px_H → Prop), wp d 97 95 [l0, l1] [.ref a] w k Q ↔ px_op (px_fld w a [(10, 0)] 0) (fun v => wp d 97 98 [l0, l1] [v] w k Q)) ∧
  (∀ (d : Nat) (l0 : Option Value) (s0 : Value) (x : Int32) (w : px_H) (k : Nat) (Q : Option Value → px_H → Prop), wp d 97 98 [l0, some (.int x)] [s0] w k Q ↔ wp d 97 99 [l0, some (.int x)] [.int x, s0] w k Q) ∧
  (∀ (d : Nat) (l0 l1 : Option Value) (s0 s1 : Value)  (w : px_H) (k : Nat) (Q : Option Value → px_H → Prop) (hk : k + 1 ≤ 50), wp d 97 99 [l0, l1] [s0, s1] w k Q ↔ wp d 97 102 [l0, l1] [.ref w.1, s0, s1] (px_add w (.inr (.inr (6, [.null, .int 0, .int 0])))) (k + 1) Q) ∧
  (∀ (d : Nat) (l0 l1 : Option Value) (s0 s1 s2 : Value)  (w : px_H) (k : Nat) (Q : Option Value → px_H → Prop), wp d 97 102 [l0, l1] [s0, s1, s2] w k Q ↔ wp d 97 103 [l0, l1] [s0, s0, s1, s2] w k Q) ∧
  (∀ (d : Nat) (l0 l1 : Option Value) (s1 s2 s3 : Value)  (b : Nat) (w : px_H) (k : Nat) (Q : Option Value → px_H → Prop) (hk : k + 1 ≤ 50), wp (d + 1) 97 103 [l0, l1] [.ref b, s1, s2, s3] w k Q ↔ wc d 66 [.ref b] w (fun r w' => wp (d + 1) 97 106 [l0, l1] (r.toList ++ [s1, s2, s3]) w' (k + 1) Q)) ∧
  (∀ (d : Nat) (l0 l1 : Option Value) (s0 : Value) (i : Int32) (a : Nat) (w : px_H) (k : Nat) (Q : Option Value → px_H → Prop), wp d 97 106 [l0, l1] [s0, .int i, .ref a] w k Q ↔ px_op (px_rst w a i s0) (fun w' => wp d 97 107 [l0, l1] [] w' k Q)) ∧
  (∀ (d : Nat) (l0 : Option Value) (x : Int32) (w : px_H) (k : Nat) (Q : Option Value → px_H → Prop), wp d 97 107 [l0, some (.int x)] [] w k Q ↔ wp d 97 110 [l0, some (.int (x + 1))] [] w k Q) ∧
  (∀ (d : Nat) (l0 l1 : Option Value)  (w : px_H) (k : Nat) (Q : Option Value → px_H → Prop), wp d 97 110 [l0, l1] [] w k Q ↔ wp d 97 88 [l0, l1] [] w k Q) ∧
  (∀ (d : Nat) (l0 l1 : Option Value)  (w : px_H) (k : Nat) (Q : Option Value → px_H → Prop), wp d 97 113 [l0, l1] [] w k Q ↔ wp d 97 114 [l0, l1] [.int 0] w k Q) ∧
  (∀ (d : Nat) (l0 l1 : Option Value) (x : Int32) (w : px_H) (k : Nat) (Q : Option Value → px_H → Prop), wp d 97 114 [l0, l1] [.int x] w k Q ↔ wp d 97 115 [l0, some (.int x)] [] w k Q) ∧
  (∀ (d : Nat) (l0 l1 : Option Value) (s0 : Value)  (w : px_H) (k : Nat) (Q : Option Value → px_H → Prop), wp d 97 116 [l0, l1] [s0] w k Q ↔ wp d 97 117 [l0, l1] [.int 2, s0] w k Q) ∧
  (∀ (d : Nat) (l0 l1 : Option Value) (x y : Int32) (w : px_H) (k : Nat) (Q : Option Value → px_H → Prop), wp d 97 117 [l0, l1] [.int y, .int x] w k Q ↔ if y ≤ x then wp d 97 139 [l0, l1] [] w k Q else wp d 97 120 [l0, l1] [] w k Q) ∧
  (∀ (d : Nat) (l1 : Option Value) (a : Nat) (w : px_H) (k : Nat) (Q : Option Value → px_H → Prop), wp d 97 120 [some (.ref a), l1] [] w k Q ↔ wp d 97 121 [some (.ref a), l1] [.ref a] w k Q) ∧
  (∀ (d : Nat) (l0 l1 : Option Value) (a : Nat) (w : px_H) (k : Nat) (Q : Option Value → px_H → Prop), wp d 97 121 [l0, l1] [.ref a] w k Q ↔ px_op (px_fld w a [(10, 0)] 4) (fun v => wp d 97 124 [l0, l1] [v] w k Q)) ∧
  (∀ (d : Nat) (l0 : Option Value) (s0 : Value) (x : Int32) (w : px_H) (k : Nat) (Q : Option Value → px_H → Prop), wp d 97 124 [l0, some (.int x)] [s0] w k Q ↔ wp d 97 125 [l0, some (.int x)] [.int x, s0] w k Q) ∧
  (∀ (d : Nat) (l0 l1 : Option Value) (s0 s1 : Value)  (w : px_H) (k : Nat) (Q : Option Value → px_H → Prop) (hk : k + 1 ≤ 50), wp d 97 125 [l0, l1] [s0, s1] w k Q ↔ wp d 97 128 [l0, l1] [.ref w.1, s0, s1] (px_add w (.inr (.inr (5, [.null, .null, .null, .null, .int 0, .int 0, .int 0, .int 0, .int 0, .int 0])))) (k + 1) Q) ∧
  (∀ (d : Nat) (l0 l1 : Option Value) (s0 s1 s2 : Value)  (w : px_H) (k : Nat) (Q : Option Value → px_H → Prop), wp d 97 128 [l0, l1] [s0, s1, s2] w k Q ↔ wp d 97 129 [l0, l1] [s0, s0, s1, s2] w k Q) ∧
  (∀ (d : Nat) (l0 l1 : Option Value) (s1 s2 s3 : Value)  (b : Nat) (w : px_H) (k : Nat) (Q : Option Value → px_H → Prop) (hk : k + 4 ≤ 50), wp (d + 1) 97 129 [l0, l1] [.ref b, s1, s2, s3] w k Q ↔ wc d 41 [.ref b] w (fun r w' => wp (d + 1) 97 132 [l0, l1] (r.toList ++ [s1, s2, s3]) w' (k + 4) Q)) ∧
  (∀ (d : Nat) (l0 l1 : Option Value) (s0 : Value) (i : Int32) (a : Nat) (w : px_H) (k : Nat) (Q : Option Value → px_H → Prop), wp d 97 132 [l0, l1] [s0, .int i, .ref a] w k Q ↔ px_op (px_rst w a i s0) (fun w' => wp d 97 133 [l0, l1] [] w' k Q)) ∧
  (∀ (d : Nat) (l0 : Option Value) (x : Int32) (w : px_H) (k : Nat) (Q : Option Value → px_H → Prop), wp d 97 133 [l0, some (.int x)] [] w k Q ↔ wp d 97 136 [l0, some (.int (x + 1))] [] w k Q) ∧
  (∀ (d : Nat) (l0 l1 : Option Value)  (w : px_H) (k : Nat) (Q : Option Value → px_H → Prop), wp d 97 136 [l0, l1] [] w k Q ↔ wp d 97 115 [l0, l1] [] w k Q) ∧
  (∀ (d : Nat) (l0 l1 : Option Value)  (w : px_H) (k : Nat) (Q : Option Value → px_H → Prop), wp d 97 139 [l0, l1] [] w k Q ↔ Q none w) := ⟨fun d v0 w Q => r_entry pt_97 (Nat.le_of_ble_eq_true rfl) rfl,
  fun d l1 a w k Q => px_go (q := (.aload_n 0, 1, px_x0)) (S' := (1, [some (.ref a), l1], [.ref a], w, k)) pt_97 rfl rfl,
  fun d l0 l1 a w k Q => px_go (q := (.invokespecial 1, 3, (36, 0, [], 0, ""))) (S' := (4, [l0, l1], [], w, k)) pt_97 rfl rfl,
  fun d l1 a w k Q => px_go (q := (.aload_n 0, 1, px_x0)) (S' := (5, [some (.ref a), l1], [.ref a], w, k)) pt_97 rfl rfl,
  fun d l0 l1 s0 w k Q => r_bipush pt_97 rfl (by decide),
  fun d l0 l1 s1 w k Q hk => r_anew pt_97 rfl ⟨by decide, by decide, by decide⟩ hk,
  fun d l0 l1 a b w k Q => r_put pt_97 rfl (by simp only [List.all_cons, List.all_nil, ft_10_0, px_fit, px_isr, Bool.and_self]),
  fun d l1 a w k Q => px_go (q := (.aload_n 0, 1, px_x0)) (S' := (14, [some (.ref a), l1], [.ref a], w, k)) pt_97 rfl rfl,
  fun d l0 l1 s0 w k Q hk => r_new pt_97 rfl rfl nfl_4 hk,
  fun d l0 l1 s0 s1 w k Q => px_go (q := (.dup, 1, px_x0)) (S' := (18, [l0, l1], [s0, s0, s1], w, k)) pt_97 rfl rfl,
  fun d l0 l1 s1 s2 b w k Q hk => r_call (q := (.invokespecial 17, 3, (31, 0, [(0, 30)], 0, ""))) pt_97 rfl rfl pt_30 (Nat.le_of_ble_eq_true rfl) hk rfl,
  fun d l0 l1 a b w k Q => r_put pt_97 rfl (by simp only [List.all_cons, List.all_nil, ft_10_1, px_fit, px_isr, Bool.and_self]),
  fun d l1 a w k Q => px_go (q := (.aload_n 0, 1, px_x0)) (S' := (25, [some (.ref a), l1], [.ref a], w, k)) pt_97 rfl rfl,
  fun d l0 l1 s0 w k Q hk => r_new pt_97 rfl rfl nfl_5 hk,
  fun d l0 l1 s0 s1 w k Q => px_go (q := (.dup, 1, px_x0)) (S' := (29, [l0, l1], [s0, s0, s1], w, k)) pt_97 rfl rfl,
  fun d l0 l1 s1 s2 b w k Q hk => r_call (q := (.invokespecial 24, 3, (31, 0, [(0, 41)], 0, ""))) pt_97 rfl rfl pt_41 (Nat.le_of_ble_eq_true rfl) hk rfl,
  fun d l0 l1 a b w k Q => r_put pt_97 rfl (by simp only [List.all_cons, List.all_nil, ft_10_2, px_fit, px_isr, Bool.and_self]),
  fun d l1 a w k Q => px_go (q := (.aload_n 0, 1, px_x0)) (S' := (36, [some (.ref a), l1], [.ref a], w, k)) pt_97 rfl rfl,
  fun d l0 l1 s0 w k Q hk => r_new pt_97 rfl rfl nfl_5 hk,
  fun d l0 l1 s0 s1 w k Q => px_go (q := (.dup, 1, px_x0)) (S' := (40, [l0, l1], [s0, s0, s1], w, k)) pt_97 rfl rfl,
  fun d l0 l1 s1 s2 b w k Q hk => r_call (q := (.invokespecial 24, 3, (31, 0, [(0, 41)], 0, ""))) pt_97 rfl rfl pt_41 (Nat.le_of_ble_eq_true rfl) hk rfl,
  fun d l0 l1 a b w k Q => r_put pt_97 rfl (by simp only [List.all_cons, List.all_nil, ft_10_3, px_fit, px_isr, Bool.and_self]),
  fun d l1 a w k Q => px_go (q := (.aload_n 0, 1, px_x0)) (S' := (47, [some (.ref a), l1], [.ref a], w, k)) pt_97 rfl rfl,
  fun d l0 l1 s0 w k Q => r_iconst pt_97 rfl (by decide),
  fun d l0 l1 s1 w k Q hk => r_anew pt_97 rfl ⟨by decide, by decide, by decide⟩ hk,
  fun d l0 l1 a b w k Q => r_put pt_97 rfl (by simp only [List.all_cons, List.all_nil, ft_10_4, px_fit, px_isr, Bool.and_self]),
  fun d l1 a w k Q => px_go (q := (.aload_n 0, 1, px_x0)) (S' := (55, [some (.ref a), l1], [.ref a], w, k)) pt_97 rfl rfl,
  fun d l0 l1 s0 w k Q hk => r_new pt_97 rfl rfl nfl_2 hk,
  fun d l0 l1 s0 s1 w k Q => px_go (q := (.dup, 1, px_x0)) (S' := (59, [l0, l1], [s0, s0, s1], w, k)) pt_97 rfl rfl,
  fun d l0 l1 s1 s2 b w k Q hk => r_call (q := (.invokespecial 38, 3, (31, 0, [(0, 12)], 0, ""))) pt_97 rfl rfl pt_12 (Nat.le_of_ble_eq_true rfl) hk rfl,
  fun d l0 l1 a b w k Q => r_put pt_97 rfl (by simp only [List.all_cons, List.all_nil, ft_10_5, px_fit, px_isr, Bool.and_self]),
  fun d l1 a w k Q => px_go (q := (.aload_n 0, 1, px_x0)) (S' := (66, [some (.ref a), l1], [.ref a], w, k)) pt_97 rfl rfl,
  fun d l0 l1 s0 w k Q hk => r_new pt_97 rfl rfl nfl_7 hk,
  fun d l0 l1 s0 s1 w k Q => px_go (q := (.dup, 1, px_x0)) (S' := (70, [l0, l1], [s0, s0, s1], w, k)) pt_97 rfl rfl,
  fun d l0 l1 s1 s2 b w k Q hk => r_call (q := (.invokespecial 45, 3, (31, 0, [(0, 83)], 0, ""))) pt_97 rfl rfl pt_83 (Nat.le_of_ble_eq_true rfl) hk rfl,
  fun d l0 l1 a b w k Q => r_put pt_97 rfl (by simp only [List.all_cons, List.all_nil, ft_10_6, px_fit, px_isr, Bool.and_self]),
  fun d l1 a w k Q => px_go (q := (.aload_n 0, 1, px_x0)) (S' := (77, [some (.ref a), l1], [.ref a], w, k)) pt_97 rfl rfl,
  fun d l0 l1 s0 w k Q => r_iconst pt_97 rfl (by decide),
  fun d l0 l1 x a w k Q => r_put pt_97 rfl (by simp only [List.all_cons, List.all_nil, ft_10_7, px_fit, px_isr, Bool.and_self]),
  fun d l1 a w k Q => px_go (q := (.aload_n 0, 1, px_x0)) (S' := (82, [some (.ref a), l1], [.ref a], w, k)) pt_97 rfl rfl,
  fun d l0 l1 s0 w k Q => r_iconst pt_97 rfl (by decide),
  fun d l0 l1 x a w k Q => r_put pt_97 rfl (by simp only [List.all_cons, List.all_nil, ft_10_8, px_fit, px_isr, Bool.and_self]),
  fun d l0 l1 w k Q => r_iconst pt_97 rfl (by decide),
  fun d l0 l1 x w k Q => px_go (q := (.istore_n 1, 1, px_x0)) (S' := (88, [l0, some (.int x)], [], w, k)) pt_97 rfl rfl,
  fun d l0 l1 s0 w k Q => r_bipush pt_97 rfl (by decide),
  fun d l0 l1 x y w k Q => r_icmp_ge pt_97 rfl rfl,
  fun d l1 a w k Q => px_go (q := (.aload_n 0, 1, px_x0)) (S' := (95, [some (.ref a), l1], [.ref a], w, k)) pt_97 rfl rfl,
  fun d l0 l1 a w k Q => px_goO (q := (.getfield 11, 3, (10, 0, [(10, 0)], 0, "AllSworn"))) (S' := fun v => (98, [l0, l1], [v], w, k)) pt_97 rfl rfl,
  fun d l0 s0 x w k Q => px_go (q := (.iload_n 1, 1, px_x0)) (S' := (99, [l0, some (.int x)], [.int x, s0], w, k)) pt_97 rfl rfl,
  fun d l0 l1 s0 s1 w k Q hk => r_new pt_97 rfl rfl nfl_6 hk,
  fun d l0 l1 s0 s1 s2 w k Q => px_go (q := (.dup, 1, px_x0)) (S' := (103, [l0, l1], [s0, s0, s1, s2], w, k)) pt_97 rfl rfl,
  fun d l0 l1 s1 s2 s3 b w k Q hk => r_call (q := (.invokespecial 57, 3, (31, 0, [(0, 66)], 0, ""))) pt_97 rfl rfl pt_66 (Nat.le_of_ble_eq_true rfl) hk rfl,
  fun d l0 l1 s0 i a w k Q => px_goO (q := (.aastore, 1, px_x0)) (S' := fun w' => (107, [l0, l1], [], w', k)) pt_97 rfl rfl,
  fun d l0 x w k Q => r_iinc pt_97 rfl rfl (by decide) rfl,
  fun d l0 l1 w k Q => r_goto pt_97 rfl rfl,
  fun d l0 l1 w k Q => r_iconst pt_97 rfl (by decide),
  fun d l0 l1 x w k Q => px_go (q := (.istore_n 1, 1, px_x0)) (S' := (115, [l0, some (.int x)], [], w, k)) pt_97 rfl rfl,
  fun d l0 l1 s0 w k Q => r_iconst pt_97 rfl (by decide),
  fun d l0 l1 x y w k Q => r_icmp_ge pt_97 rfl rfl,
  fun d l1 a w k Q => px_go (q := (.aload_n 0, 1, px_x0)) (S' := (121, [some (.ref a), l1], [.ref a], w, k)) pt_97 rfl rfl,
  fun d l0 l1 a w k Q => px_goO (q := (.getfield 32, 3, (10, 4, [(10, 0)], 0, "AllSworn"))) (S' := fun v => (124, [l0, l1], [v], w, k)) pt_97 rfl rfl,
  fun d l0 s0 x w k Q => px_go (q := (.iload_n 1, 1, px_x0)) (S' := (125, [l0, some (.int x)], [.int x, s0], w, k)) pt_97 rfl rfl,
  fun d l0 l1 s0 s1 w k Q hk => r_new pt_97 rfl rfl nfl_5 hk,
  fun d l0 l1 s0 s1 s2 w k Q => px_go (q := (.dup, 1, px_x0)) (S' := (129, [l0, l1], [s0, s0, s1, s2], w, k)) pt_97 rfl rfl,
  fun d l0 l1 s1 s2 s3 b w k Q hk => r_call (q := (.invokespecial 24, 3, (31, 0, [(0, 41)], 0, ""))) pt_97 rfl rfl pt_41 (Nat.le_of_ble_eq_true rfl) hk rfl,
  fun d l0 l1 s0 i a w k Q => px_goO (q := (.aastore, 1, px_x0)) (S' := fun w' => (133, [l0, l1], [], w', k)) pt_97 rfl rfl,
  fun d l0 x w k Q => r_iinc pt_97 rfl rfl (by decide) rfl,
  fun d l0 l1 w k Q => r_goto pt_97 rfl rfl,
  fun d l0 l1 w k Q => px_ret (q := (.return_, 1, px_x0)) pt_97 rfl rfl⟩
theorem H97_88 : ∀ (d : Nat) (l0 : Option Value) (x : Int32) (w : px_H) (k : Nat) (Q : Option Value → px_H → Prop), wp d 97 88 [l0, some (.int x)] [] w k Q ↔ wp d 97 89 [l0, some (.int x)] [.int x] w k Q := fun d l0 x w k Q => px_go (q := (.iload_n 1, 1, px_x0)) (S' := (89, [l0, some (.int x)], [.int x], w, k)) pt_97 rfl rfl
theorem H97_115 : ∀ (d : Nat) (l0 : Option Value) (x : Int32) (w : px_H) (k : Nat) (Q : Option Value → px_H → Prop), wp d 97 115 [l0, some (.int x)] [] w k Q ↔ wp d 97 116 [l0, some (.int x)] [.int x] w k Q := fun d l0 x w k Q => px_go (q := (.iload_n 1, 1, px_x0)) (S' := (116, [l0, some (.int x)], [.int x], w, k)) pt_97 rfl rfl
/-- AllSworn.row(III)I -/
theorem S98 : (∀ (d : Nat) (v0 v1 v2 v3 : Value) (w : px_H) (Q : Option Value → px_H → Prop), wc d 98 [v0, v1, v2, v3] w Q ↔ wp d 98 0 [some v0, some v1, some v2, some v3, none] [] w 0 Q) ∧
  (∀ (d : Nat) (l1 l2 l3 l4 : Option Value) (a : Nat) (w : px_H) (Q : Option Value → px_H → Prop), wp d 98 0 [some (.ref a), l1, l2, l3, l4] [] w 0 Q ↔ wp d 98 1 [some (.ref a), l1, l2, l3, l4] [.ref a] w 0 Q) ∧
  (∀ (d : Nat) (l0 l2 l3 l4 : Option Value) (s0 : Value) (x : Int32) (w : px_H) (Q : Option Value → px_H → Prop), wp d 98 1 [l0, some (.int x), l2, l3, l4] [s0] w 0 Q ↔ wp d 98 2 [l0, some (.int x), l2, l3, l4] [.int x, s0] w 0 Q) ∧
  (∀ (d : Nat) (l0 l1 l2 l3 l4 : Option Value) (v0 : Value) (b : Nat) (w : px_H) (Q : Option Value → px_H → Prop), wp (d + 1) 98 2 [l0, l1, l2, l3, l4] [v0, .ref b] w 0 Q ↔ px_op (px_tgt w b [(10, 131)]) (fun v => wc d v [.ref b, v0] w (fun r w' => wp (d + 1) 98 5 [l0, l1, l2, l3, l4] (r.toList ++ []) w' 0 Q))) ∧
  (∀ (d : Nat) (l0 l1 l2 l3 l4 : Option Value) (a : Nat) (w : px_H) (Q : Option Value → px_H → Prop), wp d 98 5 [l0, l1, l2, l3, l4] [.ref a] w 0 Q ↔ wp d 98 7 [l0, l1, l2, l3, some (.ref a)] [] w 0 Q) ∧
  (∀ (d : Nat) (l0 l1 l2 l3 l4 : Option Value)  (w : px_H) (Q : Option Value → px_H → Prop), wp d 98 5 [l0, l1, l2, l3, l4] [.null] w 0 Q ↔ wp d 98 7 [l0, l1, l2, l3, some .null] [] w 0 Q) ∧
  (∀ (d : Nat) (l0 l1 l2 l3 : Option Value) (a : Nat) (w : px_H) (Q : Option Value → px_H → Prop), wp d 98 7 [l0, l1, l2, l3, some (.ref a)] [] w 0 Q ↔ wp d 98 9 [l0, l1, l2, l3, some (.ref a)] [.ref a] w 0 Q) ∧
  (∀ (d : Nat) (l0 l1 l2 l3 : Option Value)  (w : px_H) (Q : Option Value → px_H → Prop), wp d 98 7 [l0, l1, l2, l3, some .null] [] w 0 Q ↔ wp d 98 9 [l0, l1, l2, l3, some .null] [.null] w 0 Q) ∧
  (∀ (d : Nat) (l0 l1 l2 l3 l4 : Option Value)  (w : px_H) (Q : Option Value → px_H → Prop), wp d 98 9 [l0, l1, l2, l3, l4] [.null] w 0 Q ↔ wp d 98 27 [l0, l1, l2, l3, l4] [] w 0 Q) ∧
  (∀ (d : Nat) (l0 l1 l2 l3 l4 : Option Value) (a : Nat) (w : px_H) (Q : Option Value → px_H → Prop), wp d 98 9 [l0, l1, l2, l3, l4] [.ref a] w 0 Q ↔ wp d 98 12 [l0, l1, l2, l3, l4] [] w 0 Q) ∧
  (∀ (d : Nat) (l0 l1 l3 l4 : Option Value) (x : Int32) (w : px_H) (Q : Option Value → px_H → Prop), wp d 98 12 [l0, l1, some (.int x), l3, l4] [] w 0 Q ↔ wp d 98 13 [l0, l1, some (.int x), l3, l4] [.int x] w 0 Q) ∧
  (∀ (d : Nat) (l0 l1 l2 l3 l4 : Option Value) (x : Int32) (w : px_H) (Q : Option Value → px_H → Prop), wp d 98 13 [l0, l1, l2, l3, l4] [.int x] w 0 Q ↔ if x < 0 then wp d 98 27 [l0, l1, l2, l3, l4] [] w 0 Q else wp d 98 16 [l0, l1, l2, l3, l4] [] w 0 Q) ∧
  (∀ (d : Nat) (l0 l1 l3 l4 : Option Value) (x : Int32) (w : px_H) (Q : Option Value → px_H → Prop), wp d 98 16 [l0, l1, some (.int x), l3, l4] [] w 0 Q ↔ wp d 98 17 [l0, l1, some (.int x), l3, l4] [.int x] w 0 Q) ∧
  (∀ (d : Nat) (l0 l1 l2 l3 l4 : Option Value) (s0 : Value)  (w : px_H) (Q : Option Value → px_H → Prop), wp d 98 17 [l0, l1, l2, l3, l4] [s0] w 0 Q ↔ wp d 98 18 [l0, l1, l2, l3, l4] [.int 2, s0] w 0 Q) ∧
  (∀ (d : Nat) (l0 l1 l2 l3 l4 : Option Value) (x y : Int32) (w : px_H) (Q : Option Value → px_H → Prop), wp d 98 18 [l0, l1, l2, l3, l4] [.int y, .int x] w 0 Q ↔ if y < x then wp d 98 27 [l0, l1, l2, l3, l4] [] w 0 Q else wp d 98 21 [l0, l1, l2, l3, l4] [] w 0 Q) ∧
  (∀ (d : Nat) (l0 l1 l2 l4 : Option Value) (x : Int32) (w : px_H) (Q : Option Value → px_H → Prop), wp d 98 21 [l0, l1, l2, some (.int x), l4] [] w 0 Q ↔ wp d 98 22 [l0, l1, l2, some (.int x), l4] [.int x] w 0 Q) ∧
  (∀ (d : Nat) (l0 l1 l2 l3 l4 : Option Value) (s0 : Value)  (w : px_H) (Q : Option Value → px_H → Prop), wp d 98 22 [l0, l1, l2, l3, l4] [s0] w 0 Q ↔ wp d 98 24 [l0, l1, l2, l3, l4] [.int 40, s0] w 0 Q) ∧
  (∀ (d : Nat) (l0 l1 l2 l3 l4 : Option Value) (x y : Int32) (w : px_H) (Q : Option Value → px_H → Prop), wp d 98 24 [l0, l1, l2, l3, l4] [.int y, .int x] w 0 Q ↔ if x ≤ y then wp d 98 30 [l0, l1, l2, l3, l4] [] w 0 Q else wp d 98 27 [l0, l1, l2, l3, l4] [] w 0 Q) ∧
  (∀ (d : Nat) (l0 l1 l2 l3 l4 : Option Value)  (w : px_H) (Q : Option Value → px_H → Prop), wp d 98 27 [l0, l1, l2, l3, l4] [] w 0 Q ↔ wp d 98 29 [l0, l1, l2, l3, l4] [.int (-1000001)] w 0 Q) ∧
  (∀ (d : Nat) (l0 l1 l2 l3 l4 : Option Value) (x : Int32) (w : px_H) (Q : Option Value → px_H → Prop), wp d 98 29 [l0, l1, l2, l3, l4] [.int x] w 0 Q ↔ Q (some (.int x)) w) ∧
  (∀ (d : Nat) (l0 l1 l2 l4 : Option Value) (x : Int32) (w : px_H) (Q : Option Value → px_H → Prop), wp d 98 30 [l0, l1, l2, some (.int x), l4] [] w 0 Q ↔ wp d 98 31 [l0, l1, l2, some (.int x), l4] [.int x] w 0 Q) ∧
  (∀ (d : Nat) (l0 l1 l2 l3 l4 : Option Value) (x : Int32) (w : px_H) (Q : Option Value → px_H → Prop), wp d 98 31 [l0, l1, l2, l3, l4] [.int x] w 0 Q ↔ if 0 ≤ x then wp d 98 40 [l0, l1, l2, l3, l4] [] w 0 Q else wp d 98 34 [l0, l1, l2, l3, l4] [] w 0 Q) ∧
  (∀ (d : Nat) (l1 l2 l3 l4 : Option Value) (a : Nat) (w : px_H) (Q : Option Value → px_H → Prop), wp d 98 34 [some (.ref a), l1, l2, l3, l4] [] w 0 Q ↔ wp d 98 35 [some (.ref a), l1, l2, l3, l4] [.ref a] w 0 Q) ∧
  (∀ (d : Nat) (l0 l1 l2 l3 l4 : Option Value) (s0 : Value)  (w : px_H) (Q : Option Value → px_H → Prop), wp d 98 35 [l0, l1, l2, l3, l4] [s0] w 0 Q ↔ wp d 98 36 [l0, l1, l2, l3, l4] [.int 4, s0] w 0 Q) ∧
  (∀ (d : Nat) (l0 l1 l2 l3 l4 : Option Value) (v0 : Value) (b : Nat) (w : px_H) (Q : Option Value → px_H → Prop), wp (d + 1) 98 36 [l0, l1, l2, l3, l4] [v0, .ref b] w 0 Q ↔ px_op (px_tgt w b [(10, 129)]) (fun v => wc d v [.ref b, v0] w (fun r w' => wp (d + 1) 98 39 [l0, l1, l2, l3, l4] (r.toList ++ []) w' 0 Q))) ∧
  (∀ (d : Nat) (l0 l1 l2 l3 l4 : Option Value) (x : Int32) (w : px_H) (Q : Option Value → px_H → Prop), wp d 98 39 [l0, l1, l2, l3, l4] [.int x] w 0 Q ↔ Q (some (.int x)) w) ∧
  (∀ (d : Nat) (l0 l1 l2 l3 : Option Value) (a : Nat) (w : px_H) (Q : Option Value → px_H → Prop), wp d 98 40 [l0, l1, l2, l3, some (.ref a)] [] w 0 Q ↔ wp d 98 42 [l0, l1, l2, l3, some (.ref a)] [.ref a] w 0 Q) ∧
  (∀ (d : Nat) (l0 l1 l2 l3 : Option Value)  (w : px_H) (Q : Option Value → px_H → Prop), wp d 98 40 [l0, l1, l2, l3, some .null] [] w 0 Q ↔ wp d 98 42 [l0, l1, l2, l3, some .null] [.null] w 0 Q) ∧
  (∀ (d : Nat) (l0 l1 l3 l4 : Option Value) (s0 : Value) (x : Int32) (w : px_H) (Q : Option Value → px_H → Prop), wp d 98 42 [l0, l1, some (.int x), l3, l4] [s0] w 0 Q ↔ wp d 98 43 [l0, l1, some (.int x), l3, l4] [.int x, s0] w 0 Q) ∧
  (∀ (d : Nat) (l0 l1 l2 l4 : Option Value) (s0 s1 : Value) (x : Int32) (w : px_H) (Q : Option Value → px_H → Prop), wp d 98 43 [l0, l1, l2, some (.int x), l4] [s0, s1] w 0 Q ↔ wp d 98 44 [l0, l1, l2, some (.int x), l4] [.int x, s0, s1] w 0 Q) ∧
  (∀ (d : Nat) (l0 l1 l2 l3 l4 : Option Value) (v0 v1 : Value) (b : Nat) (w : px_H) (Q : Option Value → px_H → Prop), wp (d + 1) 98 44 [l0, l1, l2, l3, l4] [v1, v0, .ref b] w 0 Q ↔ px_op (px_tgt w b [(6, 69)]) (fun v => wc d v [.ref b, v0, v1] w (fun r w' => wp (d + 1) 98 47 [l0, l1, l2, l3, l4] (r.toList ++ []) w' 0 Q))) ∧
  (∀ (d : Nat) (l1 l2 l3 l4 : Option Value) (a : Nat) (w : px_H) (Q : Option Value → px_H → Prop), wp d 98 47 [some (.ref a), l1, l2, l3, l4] [] w 0 Q ↔ wp d 98 48 [some (.ref a), l1, l2, l3, l4] [.ref a] w 0 Q) ∧
  (∀ (d : Nat) (l0 l1 l2 l4 : Option Value) (s0 : Value) (x : Int32) (w : px_H) (Q : Option Value → px_H → Prop), wp d 98 48 [l0, l1, l2, some (.int x), l4] [s0] w 0 Q ↔ wp d 98 49 [l0, l1, l2, some (.int x), l4] [.int x, s0] w 0 Q) ∧
  (∀ (d : Nat) (l0 l1 l2 l3 l4 : Option Value) (v0 : Value) (b : Nat) (w : px_H) (Q : Option Value → px_H → Prop), wp (d + 1) 98 49 [l0, l1, l2, l3, l4] [v0, .ref b] w 0 Q ↔ px_op (px_tgt w b [(10, 130)]) (fun v => wc d v [.ref b, v0] w (fun r w' => wp (d + 1) 98 52 [l0, l1, l2, l3, l4] (r.toList ++ []) w' 0 Q))) ∧
  (∀ (d : Nat) (l0 l1 l2 l3 l4 : Option Value) (x : Int32) (w : px_H) (Q : Option Value → px_H → Prop), wp d 98 52 [l0, l1, l2, l3, l4] [.int x] w 0 Q ↔ Q (some (.int x)) w) := ⟨fun d v0 v1 v2 v3 w Q => r_entry pt_98 (Nat.le_of_ble_eq_true rfl) rfl,
  fun d l1 l2 l3 l4 a w Q => px_go (q := (.aload_n 0, 1, px_x0)) (S' := (1, [some (.ref a), l1, l2, l3, l4], [.ref a], w, 0)) pt_98 rfl rfl,
  fun d l0 l2 l3 l4 s0 x w Q => px_go (q := (.iload_n 1, 1, px_x0)) (S' := (2, [l0, some (.int x), l2, l3, l4], [.int x, s0], w, 0)) pt_98 rfl rfl,
  fun d l0 l1 l2 l3 l4 v0 b w Q => r_callV (q := (.invokevirtual 58, 3, (33, 1, [(10, 131)], 0, ""))) pt_98 rfl rfl (List.forall_mem_cons.mpr ⟨⟨_, pt_131, Nat.le_of_ble_eq_true rfl, (Nat.le_of_ble_eq_true rfl), rfl⟩, fun _ h => absurd h List.not_mem_nil⟩),
  fun d l0 l1 l2 l3 l4 a w Q => px_go (q := (.astore 4, 2, px_x0)) (S' := (7, [l0, l1, l2, l3, some (.ref a)], [], w, 0)) pt_98 rfl rfl,
  fun d l0 l1 l2 l3 l4 w Q => px_go (q := (.astore 4, 2, px_x0)) (S' := (7, [l0, l1, l2, l3, some .null], [], w, 0)) pt_98 rfl rfl,
  fun d l0 l1 l2 l3 a w Q => px_go (q := (.aload 4, 2, px_x0)) (S' := (9, [l0, l1, l2, l3, some (.ref a)], [.ref a], w, 0)) pt_98 rfl rfl,
  fun d l0 l1 l2 l3 w Q => px_go (q := (.aload 4, 2, px_x0)) (S' := (9, [l0, l1, l2, l3, some .null], [.null], w, 0)) pt_98 rfl rfl,
  fun d l0 l1 l2 l3 l4 w Q => r_ifnullN pt_98 rfl rfl,
  fun d l0 l1 l2 l3 l4 a w Q => px_go (q := (.ifnull 18, 3, px_x0)) (S' := (12, [l0, l1, l2, l3, l4], [], w, 0)) pt_98 rfl rfl,
  fun d l0 l1 l3 l4 x w Q => px_go (q := (.iload_n 2, 1, px_x0)) (S' := (13, [l0, l1, some (.int x), l3, l4], [.int x], w, 0)) pt_98 rfl rfl,
  fun d l0 l1 l2 l3 l4 x w Q => r_if_lt pt_98 rfl rfl,
  fun d l0 l1 l3 l4 x w Q => px_go (q := (.iload_n 2, 1, px_x0)) (S' := (17, [l0, l1, some (.int x), l3, l4], [.int x], w, 0)) pt_98 rfl rfl,
  fun d l0 l1 l2 l3 l4 s0 w Q => r_iconst pt_98 rfl (by decide),
  fun d l0 l1 l2 l3 l4 x y w Q => r_icmp_gt pt_98 rfl rfl,
  fun d l0 l1 l2 l4 x w Q => px_go (q := (.iload_n 3, 1, px_x0)) (S' := (22, [l0, l1, l2, some (.int x), l4], [.int x], w, 0)) pt_98 rfl rfl,
  fun d l0 l1 l2 l3 l4 s0 w Q => r_bipush pt_98 rfl (by decide),
  fun d l0 l1 l2 l3 l4 x y w Q => r_icmp_le pt_98 rfl rfl,
  fun d l0 l1 l2 l3 l4 w Q => px_go (q := (.ldc 62, 2, (0, 0, [], (-1000001), ""))) (S' := (29, [l0, l1, l2, l3, l4], [.int (-1000001)], w, 0)) pt_98 rfl rfl,
  fun d l0 l1 l2 l3 l4 x w Q => px_ret (q := (.ireturn, 1, px_x0)) pt_98 rfl rfl,
  fun d l0 l1 l2 l4 x w Q => px_go (q := (.iload_n 3, 1, px_x0)) (S' := (31, [l0, l1, l2, some (.int x), l4], [.int x], w, 0)) pt_98 rfl rfl,
  fun d l0 l1 l2 l3 l4 x w Q => r_if_ge pt_98 rfl rfl,
  fun d l1 l2 l3 l4 a w Q => px_go (q := (.aload_n 0, 1, px_x0)) (S' := (35, [some (.ref a), l1, l2, l3, l4], [.ref a], w, 0)) pt_98 rfl rfl,
  fun d l0 l1 l2 l3 l4 s0 w Q => r_iconst pt_98 rfl (by decide),
  fun d l0 l1 l2 l3 l4 v0 b w Q => r_callV (q := (.invokevirtual 63, 3, (33, 1, [(10, 129)], 0, ""))) pt_98 rfl rfl (List.forall_mem_cons.mpr ⟨⟨_, pt_129, Nat.le_of_ble_eq_true rfl, (Nat.le_of_ble_eq_true rfl), rfl⟩, fun _ h => absurd h List.not_mem_nil⟩),
  fun d l0 l1 l2 l3 l4 x w Q => px_ret (q := (.ireturn, 1, px_x0)) pt_98 rfl rfl,
  fun d l0 l1 l2 l3 a w Q => px_go (q := (.aload 4, 2, px_x0)) (S' := (42, [l0, l1, l2, l3, some (.ref a)], [.ref a], w, 0)) pt_98 rfl rfl,
  fun d l0 l1 l2 l3 w Q => px_go (q := (.aload 4, 2, px_x0)) (S' := (42, [l0, l1, l2, l3, some .null], [.null], w, 0)) pt_98 rfl rfl,
  fun d l0 l1 l3 l4 s0 x w Q => px_go (q := (.iload_n 2, 1, px_x0)) (S' := (43, [l0, l1, some (.int x), l3, l4], [.int x, s0], w, 0)) pt_98 rfl rfl,
  fun d l0 l1 l2 l4 s0 s1 x w Q => px_go (q := (.iload_n 3, 1, px_x0)) (S' := (44, [l0, l1, l2, some (.int x), l4], [.int x, s0, s1], w, 0)) pt_98 rfl rfl,
  fun d l0 l1 l2 l3 l4 v0 v1 b w Q => r_callV (q := (.invokevirtual 67, 3, (33, 2, [(6, 69)], 0, ""))) pt_98 rfl rfl (List.forall_mem_cons.mpr ⟨⟨_, pt_69, Nat.le_of_ble_eq_true rfl, (Nat.le_of_ble_eq_true rfl), rfl⟩, fun _ h => absurd h List.not_mem_nil⟩),
  fun d l1 l2 l3 l4 a w Q => px_go (q := (.aload_n 0, 1, px_x0)) (S' := (48, [some (.ref a), l1, l2, l3, l4], [.ref a], w, 0)) pt_98 rfl rfl,
  fun d l0 l1 l2 l4 s0 x w Q => px_go (q := (.iload_n 3, 1, px_x0)) (S' := (49, [l0, l1, l2, some (.int x), l4], [.int x, s0], w, 0)) pt_98 rfl rfl,
  fun d l0 l1 l2 l3 l4 v0 b w Q => r_callV (q := (.invokevirtual 71, 3, (33, 1, [(10, 130)], 0, ""))) pt_98 rfl rfl (List.forall_mem_cons.mpr ⟨⟨_, pt_130, Nat.le_of_ble_eq_true rfl, (Nat.le_of_ble_eq_true rfl), rfl⟩, fun _ h => absurd h List.not_mem_nil⟩),
  fun d l0 l1 l2 l3 l4 x w Q => px_ret (q := (.ireturn, 1, px_x0)) pt_98 rfl rfl⟩
/-- AllSworn.set(III)I -/
theorem S99 : (∀ (d : Nat) (v0 v1 v2 v3 : Value) (w : px_H) (Q : Option Value → px_H → Prop), wc d 99 [v0, v1, v2, v3] w Q ↔ wp d 99 0 [some v0, some v1, some v2, some v3, none] [] w 0 Q) ∧
  (∀ (d : Nat) (l1 l2 l3 l4 : Option Value) (a : Nat) (w : px_H) (Q : Option Value → px_H → Prop), wp d 99 0 [some (.ref a), l1, l2, l3, l4] [] w 0 Q ↔ wp d 99 1 [some (.ref a), l1, l2, l3, l4] [.ref a] w 0 Q) ∧
  (∀ (d : Nat) (l0 l2 l3 l4 : Option Value) (s0 : Value) (x : Int32) (w : px_H) (Q : Option Value → px_H → Prop), wp d 99 1 [l0, some (.int x), l2, l3, l4] [s0] w 0 Q ↔ wp d 99 2 [l0, some (.int x), l2, l3, l4] [.int x, s0] w 0 Q) ∧
  (∀ (d : Nat) (l0 l1 l2 l3 l4 : Option Value) (v0 : Value) (b : Nat) (w : px_H) (Q : Option Value → px_H → Prop), wp (d + 1) 99 2 [l0, l1, l2, l3, l4] [v0, .ref b] w 0 Q ↔ px_op (px_tgt w b [(10, 131)]) (fun v => wc d v [.ref b, v0] w (fun r w' => wp (d + 1) 99 5 [l0, l1, l2, l3, l4] (r.toList ++ []) w' 0 Q))) ∧
  (∀ (d : Nat) (l0 l1 l2 l3 l4 : Option Value) (a : Nat) (w : px_H) (Q : Option Value → px_H → Prop), wp d 99 5 [l0, l1, l2, l3, l4] [.ref a] w 0 Q ↔ wp d 99 7 [l0, l1, l2, l3, some (.ref a)] [] w 0 Q) ∧
  (∀ (d : Nat) (l0 l1 l2 l3 l4 : Option Value)  (w : px_H) (Q : Option Value → px_H → Prop), wp d 99 5 [l0, l1, l2, l3, l4] [.null] w 0 Q ↔ wp d 99 7 [l0, l1, l2, l3, some .null] [] w 0 Q) ∧
  (∀ (d : Nat) (l0 l1 l2 l3 : Option Value) (a : Nat) (w : px_H) (Q : Option Value → px_H → Prop), wp d 99 7 [l0, l1, l2, l3, some (.ref a)] [] w 0 Q ↔ wp d 99 9 [l0, l1, l2, l3, some (.ref a)] [.ref a] w 0 Q) ∧
  (∀ (d : Nat) (l0 l1 l2 l3 : Option Value)  (w : px_H) (Q : Option Value → px_H → Prop), wp d 99 7 [l0, l1, l2, l3, some .null] [] w 0 Q ↔ wp d 99 9 [l0, l1, l2, l3, some .null] [.null] w 0 Q) ∧
  (∀ (d : Nat) (l0 l1 l2 l3 l4 : Option Value) (a : Nat) (w : px_H) (Q : Option Value → px_H → Prop), wp d 99 9 [l0, l1, l2, l3, l4] [.ref a] w 0 Q ↔ wp d 99 15 [l0, l1, l2, l3, l4] [] w 0 Q) ∧
  (∀ (d : Nat) (l0 l1 l2 l3 l4 : Option Value)  (w : px_H) (Q : Option Value → px_H → Prop), wp d 99 9 [l0, l1, l2, l3, l4] [.null] w 0 Q ↔ wp d 99 12 [l0, l1, l2, l3, l4] [] w 0 Q) ∧
  (∀ (d : Nat) (l0 l1 l2 l3 l4 : Option Value)  (w : px_H) (Q : Option Value → px_H → Prop), wp d 99 12 [l0, l1, l2, l3, l4] [] w 0 Q ↔ wp d 99 14 [l0, l1, l2, l3, l4] [.int (-1000001)] w 0 Q) ∧
  (∀ (d : Nat) (l0 l1 l2 l3 l4 : Option Value) (x : Int32) (w : px_H) (Q : Option Value → px_H → Prop), wp d 99 14 [l0, l1, l2, l3, l4] [.int x] w 0 Q ↔ Q (some (.int x)) w) ∧
  (∀ (d : Nat) (l0 l1 l2 l3 : Option Value) (a : Nat) (w : px_H) (Q : Option Value → px_H → Prop), wp d 99 15 [l0, l1, l2, l3, some (.ref a)] [] w 0 Q ↔ wp d 99 17 [l0, l1, l2, l3, some (.ref a)] [.ref a] w 0 Q) ∧
  (∀ (d : Nat) (l0 l1 l2 l3 : Option Value)  (w : px_H) (Q : Option Value → px_H → Prop), wp d 99 15 [l0, l1, l2, l3, some .null] [] w 0 Q ↔ wp d 99 17 [l0, l1, l2, l3, some .null] [.null] w 0 Q) ∧
  (∀ (d : Nat) (l0 l1 l2 l3 l4 : Option Value)  (b : Nat) (w : px_H) (Q : Option Value → px_H → Prop), wp (d + 1) 99 17 [l0, l1, l2, l3, l4] [.ref b] w 0 Q ↔ px_op (px_tgt w b [(6, 67)]) (fun v => wc d v [.ref b] w (fun r w' => wp (d + 1) 99 20 [l0, l1, l2, l3, l4] (r.toList ++ []) w' 0 Q))) ∧
  (∀ (d : Nat) (l0 l1 l2 l3 l4 : Option Value) (x : Int32) (w : px_H) (Q : Option Value → px_H → Prop), wp d 99 20 [l0, l1, l2, l3, l4] [.int x] w 0 Q ↔ if x = 0 then wp d 99 29 [l0, l1, l2, l3, l4] [] w 0 Q else wp d 99 23 [l0, l1, l2, l3, l4] [] w 0 Q) ∧
  (∀ (d : Nat) (l1 l2 l3 l4 : Option Value) (a : Nat) (w : px_H) (Q : Option Value → px_H → Prop), wp d 99 23 [some (.ref a), l1, l2, l3, l4] [] w 0 Q ↔ wp d 99 24 [some (.ref a), l1, l2, l3, l4] [.ref a] w 0 Q) ∧
  (∀ (d : Nat) (l0 l1 l2 l3 l4 : Option Value) (s0 : Value)  (w : px_H) (Q : Option Value → px_H → Prop), wp d 99 24 [l0, l1, l2, l3, l4] [s0] w 0 Q ↔ wp d 99 25 [l0, l1, l2, l3, l4] [.int 1, s0] w 0 Q) ∧
  (∀ (d : Nat) (l0 l1 l2 l3 l4 : Option Value) (v0 : Value) (b : Nat) (w : px_H) (Q : Option Value → px_H → Prop), wp (d + 1) 99 25 [l0, l1, l2, l3, l4] [v0, .ref b] w 0 Q ↔ px_op (px_tgt w b [(10, 129)]) (fun v => wc d v [.ref b, v0] w (fun r w' => wp (d + 1) 99 28 [l0, l1, l2, l3, l4] (r.toList ++ []) w' 0 Q))) ∧
  (∀ (d : Nat) (l0 l1 l2 l3 l4 : Option Value) (x : Int32) (w : px_H) (Q : Option Value → px_H → Prop), wp d 99 28 [l0, l1, l2, l3, l4] [.int x] w 0 Q ↔ Q (some (.int x)) w) ∧
  (∀ (d : Nat) (l0 l1 l2 l3 : Option Value) (a : Nat) (w : px_H) (Q : Option Value → px_H → Prop), wp d 99 29 [l0, l1, l2, l3, some (.ref a)] [] w 0 Q ↔ wp d 99 31 [l0, l1, l2, l3, some (.ref a)] [.ref a] w 0 Q) ∧
  (∀ (d : Nat) (l0 l1 l2 l3 : Option Value)  (w : px_H) (Q : Option Value → px_H → Prop), wp d 99 29 [l0, l1, l2, l3, some .null] [] w 0 Q ↔ wp d 99 31 [l0, l1, l2, l3, some .null] [.null] w 0 Q) ∧
  (∀ (d : Nat) (l0 l1 l3 l4 : Option Value) (s0 : Value) (x : Int32) (w : px_H) (Q : Option Value → px_H → Prop), wp d 99 31 [l0, l1, some (.int x), l3, l4] [s0] w 0 Q ↔ wp d 99 32 [l0, l1, some (.int x), l3, l4] [.int x, s0] w 0 Q) ∧
  (∀ (d : Nat) (l0 l1 l2 l3 l4 : Option Value) (s0 s1 : Value)  (w : px_H) (Q : Option Value → px_H → Prop), wp d 99 32 [l0, l1, l2, l3, l4] [s0, s1] w 0 Q ↔ wp d 99 33 [l0, l1, l2, l3, l4] [.int 1, s0, s1] w 0 Q) ∧
  (∀ (d : Nat) (l0 l1 l2 l3 l4 : Option Value) (v0 v1 : Value) (b : Nat) (w : px_H) (Q : Option Value → px_H → Prop), wp (d + 1) 99 33 [l0, l1, l2, l3, l4] [v1, v0, .ref b] w 0 Q ↔ px_op (px_tgt w b [(6, 70)]) (fun v => wc d v [.ref b, v0, v1] w (fun r w' => wp (d + 1) 99 36 [l0, l1, l2, l3, l4] (r.toList ++ []) w' 0 Q))) ∧
  (∀ (d : Nat) (l0 l1 l2 l3 l4 : Option Value) (x : Int32) (w : px_H) (Q : Option Value → px_H → Prop), wp d 99 36 [l0, l1, l2, l3, l4] [.int x] w 0 Q ↔ if x = 0 then wp d 99 39 [l0, l1, l2, l3, l4] [] w 0 Q else wp d 99 45 [l0, l1, l2, l3, l4] [] w 0 Q) ∧
  (∀ (d : Nat) (l1 l2 l3 l4 : Option Value) (a : Nat) (w : px_H) (Q : Option Value → px_H → Prop), wp d 99 39 [some (.ref a), l1, l2, l3, l4] [] w 0 Q ↔ wp d 99 40 [some (.ref a), l1, l2, l3, l4] [.ref a] w 0 Q) ∧
  (∀ (d : Nat) (l0 l1 l2 l3 l4 : Option Value) (s0 : Value)  (w : px_H) (Q : Option Value → px_H → Prop), wp d 99 40 [l0, l1, l2, l3, l4] [s0] w 0 Q ↔ wp d 99 41 [l0, l1, l2, l3, l4] [.int 2, s0] w 0 Q) ∧
  (∀ (d : Nat) (l0 l1 l2 l3 l4 : Option Value) (v0 : Value) (b : Nat) (w : px_H) (Q : Option Value → px_H → Prop), wp (d + 1) 99 41 [l0, l1, l2, l3, l4] [v0, .ref b] w 0 Q ↔ px_op (px_tgt w b [(10, 129)]) (fun v => wc d v [.ref b, v0] w (fun r w' => wp (d + 1) 99 44 [l0, l1, l2, l3, l4] (r.toList ++ []) w' 0 Q))) ∧
  (∀ (d : Nat) (l0 l1 l2 l3 l4 : Option Value) (x : Int32) (w : px_H) (Q : Option Value → px_H → Prop), wp d 99 44 [l0, l1, l2, l3, l4] [.int x] w 0 Q ↔ Q (some (.int x)) w) ∧
  (∀ (d : Nat) (l1 l2 l3 l4 : Option Value) (a : Nat) (w : px_H) (Q : Option Value → px_H → Prop), wp d 99 45 [some (.ref a), l1, l2, l3, l4] [] w 0 Q ↔ wp d 99 46 [some (.ref a), l1, l2, l3, l4] [.ref a] w 0 Q) ∧
  (∀ (d : Nat) (l0 l1 l2 l3 : Option Value) (s0 : Value) (a : Nat) (w : px_H) (Q : Option Value → px_H → Prop), wp d 99 46 [l0, l1, l2, l3, some (.ref a)] [s0] w 0 Q ↔ wp d 99 48 [l0, l1, l2, l3, some (.ref a)] [.ref a, s0] w 0 Q) ∧
  (∀ (d : Nat) (l0 l1 l2 l3 : Option Value) (s0 : Value)  (w : px_H) (Q : Option Value → px_H → Prop), wp d 99 46 [l0, l1, l2, l3, some .null] [s0] w 0 Q ↔ wp d 99 48 [l0, l1, l2, l3, some .null] [.null, s0] w 0 Q) ∧
  (∀ (d : Nat) (l0 l1 l3 l4 : Option Value) (s0 s1 : Value) (x : Int32) (w : px_H) (Q : Option Value → px_H → Prop), wp d 99 48 [l0, l1, some (.int x), l3, l4] [s0, s1] w 0 Q ↔ wp d 99 49 [l0, l1, some (.int x), l3, l4] [.int x, s0, s1] w 0 Q) ∧
  (∀ (d : Nat) (l0 l1 l2 l4 : Option Value) (s0 s1 s2 : Value) (x : Int32) (w : px_H) (Q : Option Value → px_H → Prop), wp d 99 49 [l0, l1, l2, some (.int x), l4] [s0, s1, s2] w 0 Q ↔ wp d 99 50 [l0, l1, l2, some (.int x), l4] [.int x, s0, s1, s2] w 0 Q) ∧
  (∀ (d : Nat) (l0 l1 l2 l3 l4 : Option Value) (s3 : Value) (v0 v1 : Value) (b : Nat) (w : px_H) (Q : Option Value → px_H → Prop), wp (d + 1) 99 50 [l0, l1, l2, l3, l4] [v1, v0, .ref b, s3] w 0 Q ↔ px_op (px_tgt w b [(6, 71)]) (fun v => wc d v [.ref b, v0, v1] w (fun r w' => wp (d + 1) 99 53 [l0, l1, l2, l3, l4] (r.toList ++ [s3]) w' 0 Q))) ∧
  (∀ (d : Nat) (l0 l1 l2 l3 l4 : Option Value) (v0 : Value) (b : Nat) (w : px_H) (Q : Option Value → px_H → Prop), wp (d + 1) 99 53 [l0, l1, l2, l3, l4] [v0, .ref b] w 0 Q ↔ px_op (px_tgt w b [(10, 130)]) (fun v => wc d v [.ref b, v0] w (fun r w' => wp (d + 1) 99 56 [l0, l1, l2, l3, l4] (r.toList ++ []) w' 0 Q))) ∧
  (∀ (d : Nat) (l0 l1 l2 l3 l4 : Option Value) (x : Int32) (w : px_H) (Q : Option Value → px_H → Prop), wp d 99 56 [l0, l1, l2, l3, l4] [.int x] w 0 Q ↔ Q (some (.int x)) w) := ⟨fun d v0 v1 v2 v3 w Q => r_entry pt_99 (Nat.le_of_ble_eq_true rfl) rfl,
  fun d l1 l2 l3 l4 a w Q => px_go (q := (.aload_n 0, 1, px_x0)) (S' := (1, [some (.ref a), l1, l2, l3, l4], [.ref a], w, 0)) pt_99 rfl rfl,
  fun d l0 l2 l3 l4 s0 x w Q => px_go (q := (.iload_n 1, 1, px_x0)) (S' := (2, [l0, some (.int x), l2, l3, l4], [.int x, s0], w, 0)) pt_99 rfl rfl,
  fun d l0 l1 l2 l3 l4 v0 b w Q => r_callV (q := (.invokevirtual 58, 3, (33, 1, [(10, 131)], 0, ""))) pt_99 rfl rfl (List.forall_mem_cons.mpr ⟨⟨_, pt_131, Nat.le_of_ble_eq_true rfl, (Nat.le_of_ble_eq_true rfl), rfl⟩, fun _ h => absurd h List.not_mem_nil⟩),
  fun d l0 l1 l2 l3 l4 a w Q => px_go (q := (.astore 4, 2, px_x0)) (S' := (7, [l0, l1, l2, l3, some (.ref a)], [], w, 0)) pt_99 rfl rfl,
  fun d l0 l1 l2 l3 l4 w Q => px_go (q := (.astore 4, 2, px_x0)) (S' := (7, [l0, l1, l2, l3, some .null], [], w, 0)) pt_99 rfl rfl,
  fun d l0 l1 l2 l3 a w Q => px_go (q := (.aload 4, 2, px_x0)) (S' := (9, [l0, l1, l2, l3, some (.ref a)], [.ref a], w, 0)) pt_99 rfl rfl,
  fun d l0 l1 l2 l3 w Q => px_go (q := (.aload 4, 2, px_x0)) (S' := (9, [l0, l1, l2, l3, some .null], [.null], w, 0)) pt_99 rfl rfl,
  fun d l0 l1 l2 l3 l4 a w Q => r_ifnonnull pt_99 rfl rfl,
  fun d l0 l1 l2 l3 l4 w Q => px_go (q := (.ifnonnull 6, 3, px_x0)) (S' := (12, [l0, l1, l2, l3, l4], [], w, 0)) pt_99 rfl rfl,
  fun d l0 l1 l2 l3 l4 w Q => px_go (q := (.ldc 62, 2, (0, 0, [], (-1000001), ""))) (S' := (14, [l0, l1, l2, l3, l4], [.int (-1000001)], w, 0)) pt_99 rfl rfl,
  fun d l0 l1 l2 l3 l4 x w Q => px_ret (q := (.ireturn, 1, px_x0)) pt_99 rfl rfl,
  fun d l0 l1 l2 l3 a w Q => px_go (q := (.aload 4, 2, px_x0)) (S' := (17, [l0, l1, l2, l3, some (.ref a)], [.ref a], w, 0)) pt_99 rfl rfl,
  fun d l0 l1 l2 l3 w Q => px_go (q := (.aload 4, 2, px_x0)) (S' := (17, [l0, l1, l2, l3, some .null], [.null], w, 0)) pt_99 rfl rfl,
  fun d l0 l1 l2 l3 l4 b w Q => r_callV (q := (.invokevirtual 74, 3, (33, 0, [(6, 67)], 0, ""))) pt_99 rfl rfl (List.forall_mem_cons.mpr ⟨⟨_, pt_67, Nat.le_of_ble_eq_true rfl, (Nat.le_of_ble_eq_true rfl), rfl⟩, fun _ h => absurd h List.not_mem_nil⟩),
  fun d l0 l1 l2 l3 l4 x w Q => r_if_eq pt_99 rfl rfl,
  fun d l1 l2 l3 l4 a w Q => px_go (q := (.aload_n 0, 1, px_x0)) (S' := (24, [some (.ref a), l1, l2, l3, l4], [.ref a], w, 0)) pt_99 rfl rfl,
  fun d l0 l1 l2 l3 l4 s0 w Q => r_iconst pt_99 rfl (by decide),
  fun d l0 l1 l2 l3 l4 v0 b w Q => r_callV (q := (.invokevirtual 63, 3, (33, 1, [(10, 129)], 0, ""))) pt_99 rfl rfl (List.forall_mem_cons.mpr ⟨⟨_, pt_129, Nat.le_of_ble_eq_true rfl, (Nat.le_of_ble_eq_true rfl), rfl⟩, fun _ h => absurd h List.not_mem_nil⟩),
  fun d l0 l1 l2 l3 l4 x w Q => px_ret (q := (.ireturn, 1, px_x0)) pt_99 rfl rfl,
  fun d l0 l1 l2 l3 a w Q => px_go (q := (.aload 4, 2, px_x0)) (S' := (31, [l0, l1, l2, l3, some (.ref a)], [.ref a], w, 0)) pt_99 rfl rfl,
  fun d l0 l1 l2 l3 w Q => px_go (q := (.aload 4, 2, px_x0)) (S' := (31, [l0, l1, l2, l3, some .null], [.null], w, 0)) pt_99 rfl rfl,
  fun d l0 l1 l3 l4 s0 x w Q => px_go (q := (.iload_n 2, 1, px_x0)) (S' := (32, [l0, l1, some (.int x), l3, l4], [.int x, s0], w, 0)) pt_99 rfl rfl,
  fun d l0 l1 l2 l3 l4 s0 s1 w Q => r_iconst pt_99 rfl (by decide),
  fun d l0 l1 l2 l3 l4 v0 v1 b w Q => r_callV (q := (.invokevirtual 78, 3, (33, 2, [(6, 70)], 0, ""))) pt_99 rfl rfl (List.forall_mem_cons.mpr ⟨⟨_, pt_70, Nat.le_of_ble_eq_true rfl, (Nat.le_of_ble_eq_true rfl), rfl⟩, fun _ h => absurd h List.not_mem_nil⟩),
  fun d l0 l1 l2 l3 l4 x w Q => r_if_ne pt_99 rfl rfl,
  fun d l1 l2 l3 l4 a w Q => px_go (q := (.aload_n 0, 1, px_x0)) (S' := (40, [some (.ref a), l1, l2, l3, l4], [.ref a], w, 0)) pt_99 rfl rfl,
  fun d l0 l1 l2 l3 l4 s0 w Q => r_iconst pt_99 rfl (by decide),
  fun d l0 l1 l2 l3 l4 v0 b w Q => r_callV (q := (.invokevirtual 63, 3, (33, 1, [(10, 129)], 0, ""))) pt_99 rfl rfl (List.forall_mem_cons.mpr ⟨⟨_, pt_129, Nat.le_of_ble_eq_true rfl, (Nat.le_of_ble_eq_true rfl), rfl⟩, fun _ h => absurd h List.not_mem_nil⟩),
  fun d l0 l1 l2 l3 l4 x w Q => px_ret (q := (.ireturn, 1, px_x0)) pt_99 rfl rfl,
  fun d l1 l2 l3 l4 a w Q => px_go (q := (.aload_n 0, 1, px_x0)) (S' := (46, [some (.ref a), l1, l2, l3, l4], [.ref a], w, 0)) pt_99 rfl rfl,
  fun d l0 l1 l2 l3 s0 a w Q => px_go (q := (.aload 4, 2, px_x0)) (S' := (48, [l0, l1, l2, l3, some (.ref a)], [.ref a, s0], w, 0)) pt_99 rfl rfl,
  fun d l0 l1 l2 l3 s0 w Q => px_go (q := (.aload 4, 2, px_x0)) (S' := (48, [l0, l1, l2, l3, some .null], [.null, s0], w, 0)) pt_99 rfl rfl,
  fun d l0 l1 l3 l4 s0 s1 x w Q => px_go (q := (.iload_n 2, 1, px_x0)) (S' := (49, [l0, l1, some (.int x), l3, l4], [.int x, s0, s1], w, 0)) pt_99 rfl rfl,
  fun d l0 l1 l2 l4 s0 s1 s2 x w Q => px_go (q := (.iload_n 3, 1, px_x0)) (S' := (50, [l0, l1, l2, some (.int x), l4], [.int x, s0, s1, s2], w, 0)) pt_99 rfl rfl,
  fun d l0 l1 l2 l3 l4 s3 v0 v1 b w Q => r_callV (q := (.invokevirtual 82, 3, (33, 2, [(6, 71)], 0, ""))) pt_99 rfl rfl (List.forall_mem_cons.mpr ⟨⟨_, pt_71, Nat.le_of_ble_eq_true rfl, (Nat.le_of_ble_eq_true rfl), rfl⟩, fun _ h => absurd h List.not_mem_nil⟩),
  fun d l0 l1 l2 l3 l4 v0 b w Q => r_callV (q := (.invokevirtual 71, 3, (33, 1, [(10, 130)], 0, ""))) pt_99 rfl rfl (List.forall_mem_cons.mpr ⟨⟨_, pt_130, Nat.le_of_ble_eq_true rfl, (Nat.le_of_ble_eq_true rfl), rfl⟩, fun _ h => absurd h List.not_mem_nil⟩),
  fun d l0 l1 l2 l3 l4 x w Q => px_ret (q := (.ireturn, 1, px_x0)) pt_99 rfl rfl⟩
/-- AllSworn.copy(IIIII)I -/
theorem S100 : (∀ (d : Nat) (v0 v1 v2 v3 v4 v5 : Value) (w : px_H) (Q : Option Value → px_H → Prop), wc d 100 [v0, v1, v2, v3, v4, v5] w Q ↔ wp d 100 0 [some v0, some v1, some v2, some v3, some v4, some v5, none, none] [] w 0 Q) ∧
  (∀ (d : Nat) (l1 l2 l3 l4 l5 l6 l7 : Option Value) (a : Nat) (w : px_H) (Q : Option Value → px_H → Prop), wp d 100 0 [some (.ref a), l1, l2, l3, l4, l5, l6, l7] [] w 0 Q ↔ wp d 100 1 [some (.ref a), l1, l2, l3, l4, l5, l6, l7] [.ref a] w 0 Q) ∧
  (∀ (d : Nat) (l0 l2 l3 l4 l5 l6 l7 : Option Value) (s0 : Value) (x : Int32) (w : px_H) (Q : Option Value → px_H → Prop), wp d 100 1 [l0, some (.int x), l2, l3, l4, l5, l6, l7] [s0] w 0 Q ↔ wp d 100 2 [l0, some (.int x), l2, l3, l4, l5, l6, l7] [.int x, s0] w 0 Q) ∧
  (∀ (d : Nat) (l0 l1 l2 l3 l4 l5 l6 l7 : Option Value) (v0 : Value) (b : Nat) (w : px_H) (Q : Option Value → px_H → Prop), wp (d + 1) 100 2 [l0, l1, l2, l3, l4, l5, l6, l7] [v0, .ref b] w 0 Q ↔ px_op (px_tgt w b [(10, 131)]) (fun v => wc d v [.ref b, v0] w (fun r w' => wp (d + 1) 100 5 [l0, l1, l2, l3, l4, l5, l6, l7] (r.toList ++ []) w' 0 Q))) ∧
  (∀ (d : Nat) (l0 l1 l2 l3 l4 l5 l6 l7 : Option Value) (a : Nat) (w : px_H) (Q : Option Value → px_H → Prop), wp d 100 5 [l0, l1, l2, l3, l4, l5, l6, l7] [.ref a] w 0 Q ↔ wp d 100 7 [l0, l1, l2, l3, l4, l5, some (.ref a), l7] [] w 0 Q) ∧
  (∀ (d : Nat) (l0 l1 l2 l3 l4 l5 l6 l7 : Option Value)  (w : px_H) (Q : Option Value → px_H → Prop), wp d 100 5 [l0, l1, l2, l3, l4, l5, l6, l7] [.null] w 0 Q ↔ wp d 100 7 [l0, l1, l2, l3, l4, l5, some .null, l7] [] w 0 Q) ∧
  (∀ (d : Nat) (l1 l2 l3 l4 l5 l6 l7 : Option Value) (a : Nat) (w : px_H) (Q : Option Value → px_H → Prop), wp d 100 7 [some (.ref a), l1, l2, l3, l4, l5, l6, l7] [] w 0 Q ↔ wp d 100 8 [some (.ref a), l1, l2, l3, l4, l5, l6, l7] [.ref a] w 0 Q) ∧
  (∀ (d : Nat) (l0 l1 l2 l4 l5 l6 l7 : Option Value) (s0 : Value) (x : Int32) (w : px_H) (Q : Option Value → px_H → Prop), wp d 100 8 [l0, l1, l2, some (.int x), l4, l5, l6, l7] [s0] w 0 Q ↔ wp d 100 9 [l0, l1, l2, some (.int x), l4, l5, l6, l7] [.int x, s0] w 0 Q) ∧
  (∀ (d : Nat) (l0 l1 l2 l3 l4 l5 l6 l7 : Option Value) (v0 : Value) (b : Nat) (w : px_H) (Q : Option Value → px_H → Prop), wp (d + 1) 100 9 [l0, l1, l2, l3, l4, l5, l6, l7] [v0, .ref b] w 0 Q ↔ px_op (px_tgt w b [(10, 131)]) (fun v => wc d v [.ref b, v0] w (fun r w' => wp (d + 1) 100 12 [l0, l1, l2, l3, l4, l5, l6, l7] (r.toList ++ []) w' 0 Q))) ∧
  (∀ (d : Nat) (l0 l1 l2 l3 l4 l5 l6 l7 : Option Value) (a : Nat) (w : px_H) (Q : Option Value → px_H → Prop), wp d 100 12 [l0, l1, l2, l3, l4, l5, l6, l7] [.ref a] w 0 Q ↔ wp d 100 14 [l0, l1, l2, l3, l4, l5, l6, some (.ref a)] [] w 0 Q) ∧
  (∀ (d : Nat) (l0 l1 l2 l3 l4 l5 l6 l7 : Option Value)  (w : px_H) (Q : Option Value → px_H → Prop), wp d 100 12 [l0, l1, l2, l3, l4, l5, l6, l7] [.null] w 0 Q ↔ wp d 100 14 [l0, l1, l2, l3, l4, l5, l6, some .null] [] w 0 Q) ∧
  (∀ (d : Nat) (l0 l1 l2 l3 l4 l5 l7 : Option Value) (a : Nat) (w : px_H) (Q : Option Value → px_H → Prop), wp d 100 14 [l0, l1, l2, l3, l4, l5, some (.ref a), l7] [] w 0 Q ↔ wp d 100 16 [l0, l1, l2, l3, l4, l5, some (.ref a), l7] [.ref a] w 0 Q) ∧
  (∀ (d : Nat) (l0 l1 l2 l3 l4 l5 l7 : Option Value)  (w : px_H) (Q : Option Value → px_H → Prop), wp d 100 14 [l0, l1, l2, l3, l4, l5, some .null, l7] [] w 0 Q ↔ wp d 100 16 [l0, l1, l2, l3, l4, l5, some .null, l7] [.null] w 0 Q) ∧
  (∀ (d : Nat) (l0 l1 l2 l3 l4 l5 l6 l7 : Option Value)  (w : px_H) (Q : Option Value → px_H → Prop), wp d 100 16 [l0, l1, l2, l3, l4, l5, l6, l7] [.null] w 0 Q ↔ wp d 100 24 [l0, l1, l2, l3, l4, l5, l6, l7] [] w 0 Q) ∧
  (∀ (d : Nat) (l0 l1 l2 l3 l4 l5 l6 l7 : Option Value) (a : Nat) (w : px_H) (Q : Option Value → px_H → Prop), wp d 100 16 [l0, l1, l2, l3, l4, l5, l6, l7] [.ref a] w 0 Q ↔ wp d 100 19 [l0, l1, l2, l3, l4, l5, l6, l7] [] w 0 Q) ∧
  (∀ (d : Nat) (l0 l1 l2 l3 l4 l5 l6 : Option Value) (a : Nat) (w : px_H) (Q : Option Value → px_H → Prop), wp d 100 19 [l0, l1, l2, l3, l4, l5, l6, some (.ref a)] [] w 0 Q ↔ wp d 100 21 [l0, l1, l2, l3, l4, l5, l6, some (.ref a)] [.ref a] w 0 Q) ∧
  (∀ (d : Nat) (l0 l1 l2 l3 l4 l5 l6 : Option Value)  (w : px_H) (Q : Option Value → px_H → Prop), wp d 100 19 [l0, l1, l2, l3, l4, l5, l6, some .null] [] w 0 Q ↔ wp d 100 21 [l0, l1, l2, l3, l4, l5, l6, some .null] [.null] w 0 Q) ∧
  (∀ (d : Nat) (l0 l1 l2 l3 l4 l5 l6 l7 : Option Value) (a : Nat) (w : px_H) (Q : Option Value → px_H → Prop), wp d 100 21 [l0, l1, l2, l3, l4, l5, l6, l7] [.ref a] w 0 Q ↔ wp d 100 27 [l0, l1, l2, l3, l4, l5, l6, l7] [] w 0 Q) ∧
  (∀ (d : Nat) (l0 l1 l2 l3 l4 l5 l6 l7 : Option Value)  (w : px_H) (Q : Option Value → px_H → Prop), wp d 100 21 [l0, l1, l2, l3, l4, l5, l6, l7] [.null] w 0 Q ↔ wp d 100 24 [l0, l1, l2, l3, l4, l5, l6, l7] [] w 0 Q) ∧
  (∀ (d : Nat) (l0 l1 l2 l3 l4 l5 l6 l7 : Option Value)  (w : px_H) (Q : Option Value → px_H → Prop), wp d 100 24 [l0, l1, l2, l3, l4, l5, l6, l7] [] w 0 Q ↔ wp d 100 26 [l0, l1, l2, l3, l4, l5, l6, l7] [.int (-1000001)] w 0 Q) ∧
  (∀ (d : Nat) (l0 l1 l2 l3 l4 l5 l6 l7 : Option Value) (x : Int32) (w : px_H) (Q : Option Value → px_H → Prop), wp d 100 26 [l0, l1, l2, l3, l4, l5, l6, l7] [.int x] w 0 Q ↔ Q (some (.int x)) w) ∧
  (∀ (d : Nat) (l0 l1 l2 l3 l4 l5 l7 : Option Value) (a : Nat) (w : px_H) (Q : Option Value → px_H → Prop), wp d 100 27 [l0, l1, l2, l3, l4, l5, some (.ref a), l7] [] w 0 Q ↔ wp d 100 29 [l0, l1, l2, l3, l4, l5, some (.ref a), l7] [.ref a] w 0 Q) ∧
  (∀ (d : Nat) (l0 l1 l2 l3 l4 l5 l7 : Option Value)  (w : px_H) (Q : Option Value → px_H → Prop), wp d 100 27 [l0, l1, l2, l3, l4, l5, some .null, l7] [] w 0 Q ↔ wp d 100 29 [l0, l1, l2, l3, l4, l5, some .null, l7] [.null] w 0 Q) ∧
  (∀ (d : Nat) (l0 l1 l2 l3 l4 l5 l6 l7 : Option Value)  (b : Nat) (w : px_H) (Q : Option Value → px_H → Prop), wp (d + 1) 100 29 [l0, l1, l2, l3, l4, l5, l6, l7] [.ref b] w 0 Q ↔ px_op (px_tgt w b [(6, 67)]) (fun v => wc d v [.ref b] w (fun r w' => wp (d + 1) 100 32 [l0, l1, l2, l3, l4, l5, l6, l7] (r.toList ++ []) w' 0 Q))) ∧
  (∀ (d : Nat) (l0 l1 l2 l3 l4 l5 l6 l7 : Option Value) (x : Int32) (w : px_H) (Q : Option Value → px_H → Prop), wp d 100 32 [l0, l1, l2, l3, l4, l5, l6, l7] [.int x] w 0 Q ↔ if x = 0 then wp d 100 35 [l0, l1, l2, l3, l4, l5, l6, l7] [] w 0 Q else wp d 100 43 [l0, l1, l2, l3, l4, l5, l6, l7] [] w 0 Q) ∧
  (∀ (d : Nat) (l0 l1 l2 l3 l4 l5 l6 : Option Value) (a : Nat) (w : px_H) (Q : Option Value → px_H → Prop), wp d 100 35 [l0, l1, l2, l3, l4, l5, l6, some (.ref a)] [] w 0 Q ↔ wp d 100 37 [l0, l1, l2, l3, l4, l5, l6, some (.ref a)] [.ref a] w 0 Q) ∧
  (∀ (d : Nat) (l0 l1 l2 l3 l4 l5 l6 : Option Value)  (w : px_H) (Q : Option Value → px_H → Prop), wp d 100 35 [l0, l1, l2, l3, l4, l5, l6, some .null] [] w 0 Q ↔ wp d 100 37 [l0, l1, l2, l3, l4, l5, l6, some .null] [.null] w 0 Q) ∧
  (∀ (d : Nat) (l0 l1 l2 l3 l4 l5 l6 l7 : Option Value)  (b : Nat) (w : px_H) (Q : Option Value → px_H → Prop), wp (d + 1) 100 37 [l0, l1, l2, l3, l4, l5, l6, l7] [.ref b] w 0 Q ↔ px_op (px_tgt w b [(6, 67)]) (fun v => wc d v [.ref b] w (fun r w' => wp (d + 1) 100 40 [l0, l1, l2, l3, l4, l5, l6, l7] (r.toList ++ []) w' 0 Q))) ∧
  (∀ (d : Nat) (l0 l1 l2 l3 l4 l5 l6 l7 : Option Value) (x : Int32) (w : px_H) (Q : Option Value → px_H → Prop), wp d 100 40 [l0, l1, l2, l3, l4, l5, l6, l7] [.int x] w 0 Q ↔ if x = 0 then wp d 100 49 [l0, l1, l2, l3, l4, l5, l6, l7] [] w 0 Q else wp d 100 43 [l0, l1, l2, l3, l4, l5, l6, l7] [] w 0 Q) ∧
  (∀ (d : Nat) (l1 l2 l3 l4 l5 l6 l7 : Option Value) (a : Nat) (w : px_H) (Q : Option Value → px_H → Prop), wp d 100 43 [some (.ref a), l1, l2, l3, l4, l5, l6, l7] [] w 0 Q ↔ wp d 100 44 [some (.ref a), l1, l2, l3, l4, l5, l6, l7] [.ref a] w 0 Q) ∧
  (∀ (d : Nat) (l0 l1 l2 l3 l4 l5 l6 l7 : Option Value) (s0 : Value)  (w : px_H) (Q : Option Value → px_H → Prop), wp d 100 44 [l0, l1, l2, l3, l4, l5, l6, l7] [s0] w 0 Q ↔ wp d 100 45 [l0, l1, l2, l3, l4, l5, l6, l7] [.int 1, s0] w 0 Q) ∧
  (∀ (d : Nat) (l0 l1 l2 l3 l4 l5 l6 l7 : Option Value) (v0 : Value) (b : Nat) (w : px_H) (Q : Option Value → px_H → Prop), wp (d + 1) 100 45 [l0, l1, l2, l3, l4, l5, l6, l7] [v0, .ref b] w 0 Q ↔ px_op (px_tgt w b [(10, 129)]) (fun v => wc d v [.ref b, v0] w (fun r w' => wp (d + 1) 100 48 [l0, l1, l2, l3, l4, l5, l6, l7] (r.toList ++ []) w' 0 Q))) ∧
  (∀ (d : Nat) (l0 l1 l2 l3 l4 l5 l6 l7 : Option Value) (x : Int32) (w : px_H) (Q : Option Value → px_H → Prop), wp d 100 48 [l0, l1, l2, l3, l4, l5, l6, l7] [.int x] w 0 Q ↔ Q (some (.int x)) w) ∧
  (∀ (d : Nat) (l0 l1 l2 l3 l4 l5 l7 : Option Value) (a : Nat) (w : px_H) (Q : Option Value → px_H → Prop), wp d 100 49 [l0, l1, l2, l3, l4, l5, some (.ref a), l7] [] w 0 Q ↔ wp d 100 51 [l0, l1, l2, l3, l4, l5, some (.ref a), l7] [.ref a] w 0 Q) ∧
  (∀ (d : Nat) (l0 l1 l2 l3 l4 l5 l7 : Option Value)  (w : px_H) (Q : Option Value → px_H → Prop), wp d 100 49 [l0, l1, l2, l3, l4, l5, some .null, l7] [] w 0 Q ↔ wp d 100 51 [l0, l1, l2, l3, l4, l5, some .null, l7] [.null] w 0 Q) ∧
  (∀ (d : Nat) (l0 l1 l2 l3 l4 l5 l6 l7 : Option Value) (a : Nat) (w : px_H) (Q : Option Value → px_H → Prop), wp d 100 51 [l0, l1, l2, l3, l4, l5, l6, l7] [.ref a] w 0 Q ↔ px_op (px_fld w a [(6, 0)] 1) (fun v => wp d 100 54 [l0, l1, l2, l3, l4, l5, l6, l7] [v] w 0 Q)) ∧
  (∀ (d : Nat) (l0 l1 l2 l3 l4 l5 l6 : Option Value) (s0 : Value) (a : Nat) (w : px_H) (Q : Option Value → px_H → Prop), wp d 100 54 [l0, l1, l2, l3, l4, l5, l6, some (.ref a)] [s0] w 0 Q ↔ wp d 100 56 [l0, l1, l2, l3, l4, l5, l6, some (.ref a)] [.ref a, s0] w 0 Q) ∧
  (∀ (d : Nat) (l0 l1 l2 l3 l4 l5 l6 : Option Value) (s0 : Value)  (w : px_H) (Q : Option Value → px_H → Prop), wp d 100 54 [l0, l1, l2, l3, l4, l5, l6, some .null] [s0] w 0 Q ↔ wp d 100 56 [l0, l1, l2, l3, l4, l5, l6, some .null] [.null, s0] w 0 Q) ∧
  (∀ (d : Nat) (l0 l1 l2 l3 l4 l5 l6 l7 : Option Value) (s1 : Value) (a : Nat) (w : px_H) (Q : Option Value → px_H → Prop), wp d 100 56 [l0, l1, l2, l3, l4, l5, l6, l7] [.ref a, s1] w 0 Q ↔ px_op (px_fld w a [(6, 0)] 1) (fun v => wp d 100 59 [l0, l1, l2, l3, l4, l5, l6, l7] [v, s1] w 0 Q)) ∧
  (∀ (d : Nat) (l0 l1 l2 l3 l4 l5 l6 l7 : Option Value) (x y : Int32) (w : px_H) (Q : Option Value → px_H → Prop), wp d 100 59 [l0, l1, l2, l3, l4, l5, l6, l7] [.int y, .int x] w 0 Q ↔ if x = y then wp d 100 68 [l0, l1, l2, l3, l4, l5, l6, l7] [] w 0 Q else wp d 100 62 [l0, l1, l2, l3, l4, l5, l6, l7] [] w 0 Q) ∧
  (∀ (d : Nat) (l1 l2 l3 l4 l5 l6 l7 : Option Value) (a : Nat) (w : px_H) (Q : Option Value → px_H → Prop), wp d 100 62 [some (.ref a), l1, l2, l3, l4, l5, l6, l7] [] w 0 Q ↔ wp d 100 63 [some (.ref a), l1, l2, l3, l4, l5, l6, l7] [.ref a] w 0 Q) ∧
  (∀ (d : Nat) (l0 l1 l2 l3 l4 l5 l6 l7 : Option Value) (s0 : Value)  (w : px_H) (Q : Option Value → px_H → Prop), wp d 100 63 [l0, l1, l2, l3, l4, l5, l6, l7] [s0] w 0 Q ↔ wp d 100 64 [l0, l1, l2, l3, l4, l5, l6, l7] [.int 5, s0] w 0 Q) ∧
  (∀ (d : Nat) (l0 l1 l2 l3 l4 l5 l6 l7 : Option Value) (v0 : Value) (b : Nat) (w : px_H) (Q : Option Value → px_H → Prop), wp (d + 1) 100 64 [l0, l1, l2, l3, l4, l5, l6, l7] [v0, .ref b] w 0 Q ↔ px_op (px_tgt w b [(10, 129)]) (fun v => wc d v [.ref b, v0] w (fun r w' => wp (d + 1) 100 67 [l0, l1, l2, l3, l4, l5, l6, l7] (r.toList ++ []) w' 0 Q))) ∧
  (∀ (d : Nat) (l0 l1 l2 l3 l4 l5 l6 l7 : Option Value) (x : Int32) (w : px_H) (Q : Option Value → px_H → Prop), wp d 100 67 [l0, l1, l2, l3, l4, l5, l6, l7] [.int x] w 0 Q ↔ Q (some (.int x)) w) ∧
  (∀ (d : Nat) (l0 l1 l2 l3 l4 l5 l7 : Option Value) (a : Nat) (w : px_H) (Q : Option Value → px_H → Prop), wp d 100 68 [l0, l1, l2, l3, l4, l5, some (.ref a), l7] [] w 0 Q ↔ wp d 100 70 [l0, l1, l2, l3, l4, l5, some (.ref a), l7] [.ref a] w 0 Q) ∧
  (∀ (d : Nat) (l0 l1 l2 l3 l4 l5 l7 : Option Value)  (w : px_H) (Q : Option Value → px_H → Prop), wp d 100 68 [l0, l1, l2, l3, l4, l5, some .null, l7] [] w 0 Q ↔ wp d 100 70 [l0, l1, l2, l3, l4, l5, some .null, l7] [.null] w 0 Q) ∧
  (∀ (d : Nat) (l0 l1 l3 l4 l5 l6 l7 : Option Value) (s0 : Value) (x : Int32) (w : px_H) (Q : Option Value → px_H → Prop), wp d 100 70 [l0, l1, some (.int x), l3, l4, l5, l6, l7] [s0] w 0 Q ↔ wp d 100 71 [l0, l1, some (.int x), l3, l4, l5, l6, l7] [.int x, s0] w 0 Q) ∧
  (∀ (d : Nat) (l0 l1 l2 l3 l4 l6 l7 : Option Value) (s0 s1 : Value) (x : Int32) (w : px_H) (Q : Option Value → px_H → Prop), wp d 100 71 [l0, l1, l2, l3, l4, some (.int x), l6, l7] [s0, s1] w 0 Q ↔ wp d 100 73 [l0, l1, l2, l3, l4, some (.int x), l6, l7] [.int x, s0, s1] w 0 Q) ∧
  (∀ (d : Nat) (l0 l1 l2 l3 l4 l5 l6 l7 : Option Value) (v0 v1 : Value) (b : Nat) (w : px_H) (Q : Option Value → px_H → Prop), wp (d + 1) 100 73 [l0, l1, l2, l3, l4, l5, l6, l7] [v1, v0, .ref b] w 0 Q ↔ px_op (px_tgt w b [(6, 70)]) (fun v => wc d v [.ref b, v0, v1] w (fun r w' => wp (d + 1) 100 76 [l0, l1, l2, l3, l4, l5, l6, l7] (r.toList ++ []) w' 0 Q))) ∧
  (∀ (d : Nat) (l0 l1 l2 l3 l4 l5 l6 l7 : Option Value) (x : Int32) (w : px_H) (Q : Option Value → px_H → Prop), wp d 100 76 [l0, l1, l2, l3, l4, l5, l6, l7] [.int x] w 0 Q ↔ if x = 0 then wp d 100 91 [l0, l1, l2, l3, l4, l5, l6, l7] [] w 0 Q else wp d 100 79 [l0, l1, l2, l3, l4, l5, l6, l7] [] w 0 Q) ∧
  (∀ (d : Nat) (l0 l1 l2 l3 l4 l5 l6 : Option Value) (a : Nat) (w : px_H) (Q : Option Value → px_H → Prop), wp d 100 79 [l0, l1, l2, l3, l4, l5, l6, some (.ref a)] [] w 0 Q ↔ wp d 100 81 [l0, l1, l2, l3, l4, l5, l6, some (.ref a)] [.ref a] w 0 Q) ∧
  (∀ (d : Nat) (l0 l1 l2 l3 l4 l5 l6 : Option Value)  (w : px_H) (Q : Option Value → px_H → Prop), wp d 100 79 [l0, l1, l2, l3, l4, l5, l6, some .null] [] w 0 Q ↔ wp d 100 81 [l0, l1, l2, l3, l4, l5, l6, some .null] [.null] w 0 Q) ∧
  (∀ (d : Nat) (l0 l1 l2 l3 l5 l6 l7 : Option Value) (s0 : Value) (x : Int32) (w : px_H) (Q : Option Value → px_H → Prop), wp d 100 81 [l0, l1, l2, l3, some (.int x), l5, l6, l7] [s0] w 0 Q ↔ wp d 100 83 [l0, l1, l2, l3, some (.int x), l5, l6, l7] [.int x, s0] w 0 Q) ∧
  (∀ (d : Nat) (l0 l1 l2 l3 l4 l6 l7 : Option Value) (s0 s1 : Value) (x : Int32) (w : px_H) (Q : Option Value → px_H → Prop), wp d 100 83 [l0, l1, l2, l3, l4, some (.int x), l6, l7] [s0, s1] w 0 Q ↔ wp d 100 85 [l0, l1, l2, l3, l4, some (.int x), l6, l7] [.int x, s0, s1] w 0 Q) ∧
  (∀ (d : Nat) (l0 l1 l2 l3 l4 l5 l6 l7 : Option Value) (v0 v1 : Value) (b : Nat) (w : px_H) (Q : Option Value → px_H → Prop), wp (d + 1) 100 85 [l0, l1, l2, l3, l4, l5, l6, l7] [v1, v0, .ref b] w 0 Q ↔ px_op (px_tgt w b [(6, 70)]) (fun v => wc d v [.ref b, v0, v1] w (fun r w' => wp (d + 1) 100 88 [l0, l1, l2, l3, l4, l5, l6, l7] (r.toList ++ []) w' 0 Q))) ∧
  (∀ (d : Nat) (l0 l1 l2 l3 l4 l5 l6 l7 : Option Value) (x : Int32) (w : px_H) (Q : Option Value → px_H → Prop), wp d 100 88 [l0, l1, l2, l3, l4, l5, l6, l7] [.int x] w 0 Q ↔ if x = 0 then wp d 100 91 [l0, l1, l2, l3, l4, l5, l6, l7] [] w 0 Q else wp d 100 97 [l0, l1, l2, l3, l4, l5, l6, l7] [] w 0 Q) ∧
  (∀ (d : Nat) (l1 l2 l3 l4 l5 l6 l7 : Option Value) (a : Nat) (w : px_H) (Q : Option Value → px_H → Prop), wp d 100 91 [some (.ref a), l1, l2, l3, l4, l5, l6, l7] [] w 0 Q ↔ wp d 100 92 [some (.ref a), l1, l2, l3, l4, l5, l6, l7] [.ref a] w 0 Q) ∧
  (∀ (d : Nat) (l0 l1 l2 l3 l4 l5 l6 l7 : Option Value) (s0 : Value)  (w : px_H) (Q : Option Value → px_H → Prop), wp d 100 92 [l0, l1, l2, l3, l4, l5, l6, l7] [s0] w 0 Q ↔ wp d 100 93 [l0, l1, l2, l3, l4, l5, l6, l7] [.int 2, s0] w 0 Q) ∧
  (∀ (d : Nat) (l0 l1 l2 l3 l4 l5 l6 l7 : Option Value) (v0 : Value) (b : Nat) (w : px_H) (Q : Option Value → px_H → Prop), wp (d + 1) 100 93 [l0, l1, l2, l3, l4, l5, l6, l7] [v0, .ref b] w 0 Q ↔ px_op (px_tgt w b [(10, 129)]) (fun v => wc d v [.ref b, v0] w (fun r w' => wp (d + 1) 100 96 [l0, l1, l2, l3, l4, l5, l6, l7] (r.toList ++ []) w' 0 Q))) ∧
  (∀ (d : Nat) (l0 l1 l2 l3 l4 l5 l6 l7 : Option Value) (x : Int32) (w : px_H) (Q : Option Value → px_H → Prop), wp d 100 96 [l0, l1, l2, l3, l4, l5, l6, l7] [.int x] w 0 Q ↔ Q (some (.int x)) w) ∧
  (∀ (d : Nat) (l0 l1 l2 l3 l4 l5 l6 : Option Value) (a : Nat) (w : px_H) (Q : Option Value → px_H → Prop), wp d 100 97 [l0, l1, l2, l3, l4, l5, l6, some (.ref a)] [] w 0 Q ↔ wp d 100 99 [l0, l1, l2, l3, l4, l5, l6, some (.ref a)] [.ref a] w 0 Q) ∧
  (∀ (d : Nat) (l0 l1 l2 l3 l4 l5 l6 : Option Value)  (w : px_H) (Q : Option Value → px_H → Prop), wp d 100 97 [l0, l1, l2, l3, l4, l5, l6, some .null] [] w 0 Q ↔ wp d 100 99 [l0, l1, l2, l3, l4, l5, l6, some .null] [.null] w 0 Q) ∧
  (∀ (d : Nat) (l0 l1 l2 l3 l4 l5 l7 : Option Value) (s0 : Value) (a : Nat) (w : px_H) (Q : Option Value → px_H → Prop), wp d 100 99 [l0, l1, l2, l3, l4, l5, some (.ref a), l7] [s0] w 0 Q ↔ wp d 100 101 [l0, l1, l2, l3, l4, l5, some (.ref a), l7] [.ref a, s0] w 0 Q) ∧
  (∀ (d : Nat) (l0 l1 l2 l3 l4 l5 l7 : Option Value) (s0 : Value)  (w : px_H) (Q : Option Value → px_H → Prop), wp d 100 99 [l0, l1, l2, l3, l4, l5, some .null, l7] [s0] w 0 Q ↔ wp d 100 101 [l0, l1, l2, l3, l4, l5, some .null, l7] [.null, s0] w 0 Q) ∧
  (∀ (d : Nat) (l0 l1 l3 l4 l5 l6 l7 : Option Value) (s0 s1 : Value) (x : Int32) (w : px_H) (Q : Option Value → px_H → Prop), wp d 100 101 [l0, l1, some (.int x), l3, l4, l5, l6, l7] [s0, s1] w 0 Q ↔ wp d 100 102 [l0, l1, some (.int x), l3, l4, l5, l6, l7] [.int x, s0, s1] w 0 Q) ∧
  (∀ (d : Nat) (l0 l1 l2 l3 l5 l6 l7 : Option Value) (s0 s1 s2 : Value) (x : Int32) (w : px_H) (Q : Option Value → px_H → Prop), wp d 100 102 [l0, l1, l2, l3, some (.int x), l5, l6, l7] [s0, s1, s2] w 0 Q ↔ wp d 100 104 [l0, l1, l2, l3, some (.int x), l5, l6, l7] [.int x, s0, s1, s2] w 0 Q) ∧
  (∀ (d : Nat) (l0 l1 l2 l3 l4 l6 l7 : Option Value) (s0 s1 s2 s3 : Value) (x : Int32) (w : px_H) (Q : Option Value → px_H → Prop), wp d 100 104 [l0, l1, l2, l3, l4, some (.int x), l6, l7] [s0, s1, s2, s3] w 0 Q ↔ wp d 100 106 [l0, l1, l2, l3, l4, some (.int x), l6, l7] [.int x, s0, s1, s2, s3] w 0 Q) ∧
  (∀ (d : Nat) (l0 l1 l2 l3 l4 l5 l6 l7 : Option Value) (v0 v1 v2 v3 : Value) (b : Nat) (w : px_H) (Q : Option Value → px_H → Prop), wp (d + 1) 100 106 [l0, l1, l2, l3, l4, l5, l6, l7] [v3, v2, v1, v0, .ref b] w 0 Q ↔ px_op (px_tgt w b [(6, 72)]) (fun v => wc d v [.ref b, v0, v1, v2, v3] w (fun r w' => wp (d + 1) 100 109 [l0, l1, l2, l3, l4, l5, l6, l7] (r.toList ++ []) w' 0 Q))) ∧
  (∀ (d : Nat) (l1 l2 l3 l4 l5 l6 l7 : Option Value) (a : Nat) (w : px_H) (Q : Option Value → px_H → Prop), wp d 100 109 [some (.ref a), l1, l2, l3, l4, l5, l6, l7] [] w 0 Q ↔ wp d 100 110 [some (.ref a), l1, l2, l3, l4, l5, l6, l7] [.ref a] w 0 Q) ∧
  (∀ (d : Nat) (l0 l1 l2 l3 l4 l6 l7 : Option Value) (s0 : Value) (x : Int32) (w : px_H) (Q : Option Value → px_H → Prop), wp d 100 110 [l0, l1, l2, l3, l4, some (.int x), l6, l7] [s0] w 0 Q ↔ wp d 100 112 [l0, l1, l2, l3, l4, some (.int x), l6, l7] [.int x, s0] w 0 Q) ∧
  (∀ (d : Nat) (l0 l1 l2 l3 l4 l5 l6 l7 : Option Value) (v0 : Value) (b : Nat) (w : px_H) (Q : Option Value → px_H → Prop), wp (d + 1) 100 112 [l0, l1, l2, l3, l4, l5, l6, l7] [v0, .ref b] w 0 Q ↔ px_op (px_tgt w b [(10, 130)]) (fun v => wc d v [.ref b, v0] w (fun r w' => wp (d + 1) 100 115 [l0, l1, l2, l3, l4, l5, l6, l7] (r.toList ++ []) w' 0 Q))) ∧
  (∀ (d : Nat) (l0 l1 l2 l3 l4 l5 l6 l7 : Option Value) (x : Int32) (w : px_H) (Q : Option Value → px_H → Prop), wp d 100 115 [l0, l1, l2, l3, l4, l5, l6, l7] [.int x] w 0 Q ↔ Q (some (.int x)) w) := ⟨fun d v0 v1 v2 v3 v4 v5 w Q => r_entry pt_100 (Nat.le_of_ble_eq_true rfl) rfl,
  fun d l1 l2 l3 l4 l5 l6 l7 a w Q => px_go (q := (.aload_n 0, 1, px_x0)) (S' := (1, [some (.ref a), l1, l2, l3, l4, l5, l6, l7], [.ref a], w, 0)) pt_100 rfl rfl,
  fun d l0 l2 l3 l4 l5 l6 l7 s0 x w Q => px_go (q := (.iload_n 1, 1, px_x0)) (S' := (2, [l0, some (.int x), l2, l3, l4, l5, l6, l7], [.int x, s0], w, 0)) pt_100 rfl rfl,
  fun d l0 l1 l2 l3 l4 l5 l6 l7 v0 b w Q => r_callV (q := (.invokevirtual 58, 3, (33, 1, [(10, 131)], 0, ""))) pt_100 rfl rfl (List.forall_mem_cons.mpr ⟨⟨_, pt_131, Nat.le_of_ble_eq_true rfl, (Nat.le_of_ble_eq_true rfl), rfl⟩, fun _ h => absurd h List.not_mem_nil⟩),
  fun d l0 l1 l2 l3 l4 l5 l6 l7 a w Q => px_go (q := (.astore 6, 2, px_x0)) (S' := (7, [l0, l1, l2, l3, l4, l5, some (.ref a), l7], [], w, 0)) pt_100 rfl rfl,
  fun d l0 l1 l2 l3 l4 l5 l6 l7 w Q => px_go (q := (.astore 6, 2, px_x0)) (S' := (7, [l0, l1, l2, l3, l4, l5, some .null, l7], [], w, 0)) pt_100 rfl rfl,
  fun d l1 l2 l3 l4 l5 l6 l7 a w Q => px_go (q := (.aload_n 0, 1, px_x0)) (S' := (8, [some (.ref a), l1, l2, l3, l4, l5, l6, l7], [.ref a], w, 0)) pt_100 rfl rfl,
  fun d l0 l1 l2 l4 l5 l6 l7 s0 x w Q => px_go (q := (.iload_n 3, 1, px_x0)) (S' := (9, [l0, l1, l2, some (.int x), l4, l5, l6, l7], [.int x, s0], w, 0)) pt_100 rfl rfl,
  fun d l0 l1 l2 l3 l4 l5 l6 l7 v0 b w Q => r_callV (q := (.invokevirtual 58, 3, (33, 1, [(10, 131)], 0, ""))) pt_100 rfl rfl (List.forall_mem_cons.mpr ⟨⟨_, pt_131, Nat.le_of_ble_eq_true rfl, (Nat.le_of_ble_eq_true rfl), rfl⟩, fun _ h => absurd h List.not_mem_nil⟩),
  fun d l0 l1 l2 l3 l4 l5 l6 l7 a w Q => px_go (q := (.astore 7, 2, px_x0)) (S' := (14, [l0, l1, l2, l3, l4, l5, l6, some (.ref a)], [], w, 0)) pt_100 rfl rfl,
  fun d l0 l1 l2 l3 l4 l5 l6 l7 w Q => px_go (q := (.astore 7, 2, px_x0)) (S' := (14, [l0, l1, l2, l3, l4, l5, l6, some .null], [], w, 0)) pt_100 rfl rfl,
  fun d l0 l1 l2 l3 l4 l5 l7 a w Q => px_go (q := (.aload 6, 2, px_x0)) (S' := (16, [l0, l1, l2, l3, l4, l5, some (.ref a), l7], [.ref a], w, 0)) pt_100 rfl rfl,
  fun d l0 l1 l2 l3 l4 l5 l7 w Q => px_go (q := (.aload 6, 2, px_x0)) (S' := (16, [l0, l1, l2, l3, l4, l5, some .null, l7], [.null], w, 0)) pt_100 rfl rfl,
  fun d l0 l1 l2 l3 l4 l5 l6 l7 w Q => r_ifnullN pt_100 rfl rfl,
  fun d l0 l1 l2 l3 l4 l5 l6 l7 a w Q => px_go (q := (.ifnull 8, 3, px_x0)) (S' := (19, [l0, l1, l2, l3, l4, l5, l6, l7], [], w, 0)) pt_100 rfl rfl,
  fun d l0 l1 l2 l3 l4 l5 l6 a w Q => px_go (q := (.aload 7, 2, px_x0)) (S' := (21, [l0, l1, l2, l3, l4, l5, l6, some (.ref a)], [.ref a], w, 0)) pt_100 rfl rfl,
  fun d l0 l1 l2 l3 l4 l5 l6 w Q => px_go (q := (.aload 7, 2, px_x0)) (S' := (21, [l0, l1, l2, l3, l4, l5, l6, some .null], [.null], w, 0)) pt_100 rfl rfl,
  fun d l0 l1 l2 l3 l4 l5 l6 l7 a w Q => r_ifnonnull pt_100 rfl rfl,
  fun d l0 l1 l2 l3 l4 l5 l6 l7 w Q => px_go (q := (.ifnonnull 6, 3, px_x0)) (S' := (24, [l0, l1, l2, l3, l4, l5, l6, l7], [], w, 0)) pt_100 rfl rfl,
  fun d l0 l1 l2 l3 l4 l5 l6 l7 w Q => px_go (q := (.ldc 62, 2, (0, 0, [], (-1000001), ""))) (S' := (26, [l0, l1, l2, l3, l4, l5, l6, l7], [.int (-1000001)], w, 0)) pt_100 rfl rfl,
  fun d l0 l1 l2 l3 l4 l5 l6 l7 x w Q => px_ret (q := (.ireturn, 1, px_x0)) pt_100 rfl rfl,
  fun d l0 l1 l2 l3 l4 l5 l7 a w Q => px_go (q := (.aload 6, 2, px_x0)) (S' := (29, [l0, l1, l2, l3, l4, l5, some (.ref a), l7], [.ref a], w, 0)) pt_100 rfl rfl,
  fun d l0 l1 l2 l3 l4 l5 l7 w Q => px_go (q := (.aload 6, 2, px_x0)) (S' := (29, [l0, l1, l2, l3, l4, l5, some .null, l7], [.null], w, 0)) pt_100 rfl rfl,
  fun d l0 l1 l2 l3 l4 l5 l6 l7 b w Q => r_callV (q := (.invokevirtual 74, 3, (33, 0, [(6, 67)], 0, ""))) pt_100 rfl rfl (List.forall_mem_cons.mpr ⟨⟨_, pt_67, Nat.le_of_ble_eq_true rfl, (Nat.le_of_ble_eq_true rfl), rfl⟩, fun _ h => absurd h List.not_mem_nil⟩),
  fun d l0 l1 l2 l3 l4 l5 l6 l7 x w Q => r_if_ne pt_100 rfl rfl,
  fun d l0 l1 l2 l3 l4 l5 l6 a w Q => px_go (q := (.aload 7, 2, px_x0)) (S' := (37, [l0, l1, l2, l3, l4, l5, l6, some (.ref a)], [.ref a], w, 0)) pt_100 rfl rfl,
  fun d l0 l1 l2 l3 l4 l5 l6 w Q => px_go (q := (.aload 7, 2, px_x0)) (S' := (37, [l0, l1, l2, l3, l4, l5, l6, some .null], [.null], w, 0)) pt_100 rfl rfl,
  fun d l0 l1 l2 l3 l4 l5 l6 l7 b w Q => r_callV (q := (.invokevirtual 74, 3, (33, 0, [(6, 67)], 0, ""))) pt_100 rfl rfl (List.forall_mem_cons.mpr ⟨⟨_, pt_67, Nat.le_of_ble_eq_true rfl, (Nat.le_of_ble_eq_true rfl), rfl⟩, fun _ h => absurd h List.not_mem_nil⟩),
  fun d l0 l1 l2 l3 l4 l5 l6 l7 x w Q => r_if_eq pt_100 rfl rfl,
  fun d l1 l2 l3 l4 l5 l6 l7 a w Q => px_go (q := (.aload_n 0, 1, px_x0)) (S' := (44, [some (.ref a), l1, l2, l3, l4, l5, l6, l7], [.ref a], w, 0)) pt_100 rfl rfl,
  fun d l0 l1 l2 l3 l4 l5 l6 l7 s0 w Q => r_iconst pt_100 rfl (by decide),
  fun d l0 l1 l2 l3 l4 l5 l6 l7 v0 b w Q => r_callV (q := (.invokevirtual 63, 3, (33, 1, [(10, 129)], 0, ""))) pt_100 rfl rfl (List.forall_mem_cons.mpr ⟨⟨_, pt_129, Nat.le_of_ble_eq_true rfl, (Nat.le_of_ble_eq_true rfl), rfl⟩, fun _ h => absurd h List.not_mem_nil⟩),
  fun d l0 l1 l2 l3 l4 l5 l6 l7 x w Q => px_ret (q := (.ireturn, 1, px_x0)) pt_100 rfl rfl,
  fun d l0 l1 l2 l3 l4 l5 l7 a w Q => px_go (q := (.aload 6, 2, px_x0)) (S' := (51, [l0, l1, l2, l3, l4, l5, some (.ref a), l7], [.ref a], w, 0)) pt_100 rfl rfl,
  fun d l0 l1 l2 l3 l4 l5 l7 w Q => px_go (q := (.aload 6, 2, px_x0)) (S' := (51, [l0, l1, l2, l3, l4, l5, some .null, l7], [.null], w, 0)) pt_100 rfl rfl,
  fun d l0 l1 l2 l3 l4 l5 l6 l7 a w Q => px_goO (q := (.getfield 86, 3, (11, 1, [(6, 0)], 0, "AllSworn$Row"))) (S' := fun v => (54, [l0, l1, l2, l3, l4, l5, l6, l7], [v], w, 0)) pt_100 rfl rfl,
  fun d l0 l1 l2 l3 l4 l5 l6 s0 a w Q => px_go (q := (.aload 7, 2, px_x0)) (S' := (56, [l0, l1, l2, l3, l4, l5, l6, some (.ref a)], [.ref a, s0], w, 0)) pt_100 rfl rfl,
  fun d l0 l1 l2 l3 l4 l5 l6 s0 w Q => px_go (q := (.aload 7, 2, px_x0)) (S' := (56, [l0, l1, l2, l3, l4, l5, l6, some .null], [.null, s0], w, 0)) pt_100 rfl rfl,
  fun d l0 l1 l2 l3 l4 l5 l6 l7 s1 a w Q => px_goO (q := (.getfield 86, 3, (11, 1, [(6, 0)], 0, "AllSworn$Row"))) (S' := fun v => (59, [l0, l1, l2, l3, l4, l5, l6, l7], [v, s1], w, 0)) pt_100 rfl rfl,
  fun d l0 l1 l2 l3 l4 l5 l6 l7 x y w Q => r_icmp_eq pt_100 rfl rfl,
  fun d l1 l2 l3 l4 l5 l6 l7 a w Q => px_go (q := (.aload_n 0, 1, px_x0)) (S' := (63, [some (.ref a), l1, l2, l3, l4, l5, l6, l7], [.ref a], w, 0)) pt_100 rfl rfl,
  fun d l0 l1 l2 l3 l4 l5 l6 l7 s0 w Q => r_iconst pt_100 rfl (by decide),
  fun d l0 l1 l2 l3 l4 l5 l6 l7 v0 b w Q => r_callV (q := (.invokevirtual 63, 3, (33, 1, [(10, 129)], 0, ""))) pt_100 rfl rfl (List.forall_mem_cons.mpr ⟨⟨_, pt_129, Nat.le_of_ble_eq_true rfl, (Nat.le_of_ble_eq_true rfl), rfl⟩, fun _ h => absurd h List.not_mem_nil⟩),
  fun d l0 l1 l2 l3 l4 l5 l6 l7 x w Q => px_ret (q := (.ireturn, 1, px_x0)) pt_100 rfl rfl,
  fun d l0 l1 l2 l3 l4 l5 l7 a w Q => px_go (q := (.aload 6, 2, px_x0)) (S' := (70, [l0, l1, l2, l3, l4, l5, some (.ref a), l7], [.ref a], w, 0)) pt_100 rfl rfl,
  fun d l0 l1 l2 l3 l4 l5 l7 w Q => px_go (q := (.aload 6, 2, px_x0)) (S' := (70, [l0, l1, l2, l3, l4, l5, some .null, l7], [.null], w, 0)) pt_100 rfl rfl,
  fun d l0 l1 l3 l4 l5 l6 l7 s0 x w Q => px_go (q := (.iload_n 2, 1, px_x0)) (S' := (71, [l0, l1, some (.int x), l3, l4, l5, l6, l7], [.int x, s0], w, 0)) pt_100 rfl rfl,
  fun d l0 l1 l2 l3 l4 l6 l7 s0 s1 x w Q => px_go (q := (.iload 5, 2, px_x0)) (S' := (73, [l0, l1, l2, l3, l4, some (.int x), l6, l7], [.int x, s0, s1], w, 0)) pt_100 rfl rfl,
  fun d l0 l1 l2 l3 l4 l5 l6 l7 v0 v1 b w Q => r_callV (q := (.invokevirtual 78, 3, (33, 2, [(6, 70)], 0, ""))) pt_100 rfl rfl (List.forall_mem_cons.mpr ⟨⟨_, pt_70, Nat.le_of_ble_eq_true rfl, (Nat.le_of_ble_eq_true rfl), rfl⟩, fun _ h => absurd h List.not_mem_nil⟩),
  fun d l0 l1 l2 l3 l4 l5 l6 l7 x w Q => r_if_eq pt_100 rfl rfl,
  fun d l0 l1 l2 l3 l4 l5 l6 a w Q => px_go (q := (.aload 7, 2, px_x0)) (S' := (81, [l0, l1, l2, l3, l4, l5, l6, some (.ref a)], [.ref a], w, 0)) pt_100 rfl rfl,
  fun d l0 l1 l2 l3 l4 l5 l6 w Q => px_go (q := (.aload 7, 2, px_x0)) (S' := (81, [l0, l1, l2, l3, l4, l5, l6, some .null], [.null], w, 0)) pt_100 rfl rfl,
  fun d l0 l1 l2 l3 l5 l6 l7 s0 x w Q => px_go (q := (.iload 4, 2, px_x0)) (S' := (83, [l0, l1, l2, l3, some (.int x), l5, l6, l7], [.int x, s0], w, 0)) pt_100 rfl rfl,
  fun d l0 l1 l2 l3 l4 l6 l7 s0 s1 x w Q => px_go (q := (.iload 5, 2, px_x0)) (S' := (85, [l0, l1, l2, l3, l4, some (.int x), l6, l7], [.int x, s0, s1], w, 0)) pt_100 rfl rfl,
  fun d l0 l1 l2 l3 l4 l5 l6 l7 v0 v1 b w Q => r_callV (q := (.invokevirtual 78, 3, (33, 2, [(6, 70)], 0, ""))) pt_100 rfl rfl (List.forall_mem_cons.mpr ⟨⟨_, pt_70, Nat.le_of_ble_eq_true rfl, (Nat.le_of_ble_eq_true rfl), rfl⟩, fun _ h => absurd h List.not_mem_nil⟩),
  fun d l0 l1 l2 l3 l4 l5 l6 l7 x w Q => r_if_ne pt_100 rfl rfl,
  fun d l1 l2 l3 l4 l5 l6 l7 a w Q => px_go (q := (.aload_n 0, 1, px_x0)) (S' := (92, [some (.ref a), l1, l2, l3, l4, l5, l6, l7], [.ref a], w, 0)) pt_100 rfl rfl,
  fun d l0 l1 l2 l3 l4 l5 l6 l7 s0 w Q => r_iconst pt_100 rfl (by decide),
  fun d l0 l1 l2 l3 l4 l5 l6 l7 v0 b w Q => r_callV (q := (.invokevirtual 63, 3, (33, 1, [(10, 129)], 0, ""))) pt_100 rfl rfl (List.forall_mem_cons.mpr ⟨⟨_, pt_129, Nat.le_of_ble_eq_true rfl, (Nat.le_of_ble_eq_true rfl), rfl⟩, fun _ h => absurd h List.not_mem_nil⟩),
  fun d l0 l1 l2 l3 l4 l5 l6 l7 x w Q => px_ret (q := (.ireturn, 1, px_x0)) pt_100 rfl rfl,
  fun d l0 l1 l2 l3 l4 l5 l6 a w Q => px_go (q := (.aload 7, 2, px_x0)) (S' := (99, [l0, l1, l2, l3, l4, l5, l6, some (.ref a)], [.ref a], w, 0)) pt_100 rfl rfl,
  fun d l0 l1 l2 l3 l4 l5 l6 w Q => px_go (q := (.aload 7, 2, px_x0)) (S' := (99, [l0, l1, l2, l3, l4, l5, l6, some .null], [.null], w, 0)) pt_100 rfl rfl,
  fun d l0 l1 l2 l3 l4 l5 l7 s0 a w Q => px_go (q := (.aload 6, 2, px_x0)) (S' := (101, [l0, l1, l2, l3, l4, l5, some (.ref a), l7], [.ref a, s0], w, 0)) pt_100 rfl rfl,
  fun d l0 l1 l2 l3 l4 l5 l7 s0 w Q => px_go (q := (.aload 6, 2, px_x0)) (S' := (101, [l0, l1, l2, l3, l4, l5, some .null, l7], [.null, s0], w, 0)) pt_100 rfl rfl,
  fun d l0 l1 l3 l4 l5 l6 l7 s0 s1 x w Q => px_go (q := (.iload_n 2, 1, px_x0)) (S' := (102, [l0, l1, some (.int x), l3, l4, l5, l6, l7], [.int x, s0, s1], w, 0)) pt_100 rfl rfl,
  fun d l0 l1 l2 l3 l5 l6 l7 s0 s1 s2 x w Q => px_go (q := (.iload 4, 2, px_x0)) (S' := (104, [l0, l1, l2, l3, some (.int x), l5, l6, l7], [.int x, s0, s1, s2], w, 0)) pt_100 rfl rfl,
  fun d l0 l1 l2 l3 l4 l6 l7 s0 s1 s2 s3 x w Q => px_go (q := (.iload 5, 2, px_x0)) (S' := (106, [l0, l1, l2, l3, l4, some (.int x), l6, l7], [.int x, s0, s1, s2, s3], w, 0)) pt_100 rfl rfl,
  fun d l0 l1 l2 l3 l4 l5 l6 l7 v0 v1 v2 v3 b w Q => r_callV (q := (.invokevirtual 89, 3, (33, 4, [(6, 72)], 0, ""))) pt_100 rfl rfl (List.forall_mem_cons.mpr ⟨⟨_, pt_72, Nat.le_of_ble_eq_true rfl, (Nat.le_of_ble_eq_true rfl), rfl⟩, fun _ h => absurd h List.not_mem_nil⟩),
  fun d l1 l2 l3 l4 l5 l6 l7 a w Q => px_go (q := (.aload_n 0, 1, px_x0)) (S' := (110, [some (.ref a), l1, l2, l3, l4, l5, l6, l7], [.ref a], w, 0)) pt_100 rfl rfl,
  fun d l0 l1 l2 l3 l4 l6 l7 s0 x w Q => px_go (q := (.iload 5, 2, px_x0)) (S' := (112, [l0, l1, l2, l3, l4, some (.int x), l6, l7], [.int x, s0], w, 0)) pt_100 rfl rfl,
  fun d l0 l1 l2 l3 l4 l5 l6 l7 v0 b w Q => r_callV (q := (.invokevirtual 71, 3, (33, 1, [(10, 130)], 0, ""))) pt_100 rfl rfl (List.forall_mem_cons.mpr ⟨⟨_, pt_130, Nat.le_of_ble_eq_true rfl, (Nat.le_of_ble_eq_true rfl), rfl⟩, fun _ h => absurd h List.not_mem_nil⟩),
  fun d l0 l1 l2 l3 l4 l5 l6 l7 x w Q => px_ret (q := (.ireturn, 1, px_x0)) pt_100 rfl rfl⟩
/-- AllSworn.drop(I)I -/
theorem S101 : (∀ (d : Nat) (v0 v1 : Value) (w : px_H) (Q : Option Value → px_H → Prop), wc d 101 [v0, v1] w Q ↔ wp d 101 0 [some v0, some v1, none, none] [] w 0 Q) ∧
  (∀ (d : Nat) (l1 l2 l3 : Option Value) (a : Nat) (w : px_H) (Q : Option Value → px_H → Prop), wp d 101 0 [some (.ref a), l1, l2, l3] [] w 0 Q ↔ wp d 101 1 [some (.ref a), l1, l2, l3] [.ref a] w 0 Q) ∧
  (∀ (d : Nat) (l0 l2 l3 : Option Value) (s0 : Value) (x : Int32) (w : px_H) (Q : Option Value → px_H → Prop), wp d 101 1 [l0, some (.int x), l2, l3] [s0] w 0 Q ↔ wp d 101 2 [l0, some (.int x), l2, l3] [.int x, s0] w 0 Q) ∧
  (∀ (d : Nat) (l0 l1 l2 l3 : Option Value) (v0 : Value) (b : Nat) (w : px_H) (Q : Option Value → px_H → Prop), wp (d + 1) 101 2 [l0, l1, l2, l3] [v0, .ref b] w 0 Q ↔ px_op (px_tgt w b [(10, 131)]) (fun v => wc d v [.ref b, v0] w (fun r w' => wp (d + 1) 101 5 [l0, l1, l2, l3] (r.toList ++ []) w' 0 Q))) ∧
  (∀ (d : Nat) (l0 l1 l2 l3 : Option Value) (a : Nat) (w : px_H) (Q : Option Value → px_H → Prop), wp d 101 5 [l0, l1, l2, l3] [.ref a] w 0 Q ↔ wp d 101 6 [l0, l1, some (.ref a), l3] [] w 0 Q) ∧
  (∀ (d : Nat) (l0 l1 l2 l3 : Option Value)  (w : px_H) (Q : Option Value → px_H → Prop), wp d 101 5 [l0, l1, l2, l3] [.null] w 0 Q ↔ wp d 101 6 [l0, l1, some .null, l3] [] w 0 Q) ∧
  (∀ (d : Nat) (l0 l1 l3 : Option Value) (a : Nat) (w : px_H) (Q : Option Value → px_H → Prop), wp d 101 6 [l0, l1, some (.ref a), l3] [] w 0 Q ↔ wp d 101 7 [l0, l1, some (.ref a), l3] [.ref a] w 0 Q) ∧
  (∀ (d : Nat) (l0 l1 l3 : Option Value)  (w : px_H) (Q : Option Value → px_H → Prop), wp d 101 6 [l0, l1, some .null, l3] [] w 0 Q ↔ wp d 101 7 [l0, l1, some .null, l3] [.null] w 0 Q) ∧
  (∀ (d : Nat) (l0 l1 l2 l3 : Option Value) (a : Nat) (w : px_H) (Q : Option Value → px_H → Prop), wp d 101 7 [l0, l1, l2, l3] [.ref a] w 0 Q ↔ wp d 101 13 [l0, l1, l2, l3] [] w 0 Q) ∧
  (∀ (d : Nat) (l0 l1 l2 l3 : Option Value)  (w : px_H) (Q : Option Value → px_H → Prop), wp d 101 7 [l0, l1, l2, l3] [.null] w 0 Q ↔ wp d 101 10 [l0, l1, l2, l3] [] w 0 Q) ∧
  (∀ (d : Nat) (l0 l1 l2 l3 : Option Value)  (w : px_H) (Q : Option Value → px_H → Prop), wp d 101 10 [l0, l1, l2, l3] [] w 0 Q ↔ wp d 101 12 [l0, l1, l2, l3] [.int (-1000001)] w 0 Q) ∧
  (∀ (d : Nat) (l0 l1 l2 l3 : Option Value) (x : Int32) (w : px_H) (Q : Option Value → px_H → Prop), wp d 101 12 [l0, l1, l2, l3] [.int x] w 0 Q ↔ Q (some (.int x)) w) ∧
  (∀ (d : Nat) (l0 l1 l3 : Option Value) (a : Nat) (w : px_H) (Q : Option Value → px_H → Prop), wp d 101 13 [l0, l1, some (.ref a), l3] [] w 0 Q ↔ wp d 101 14 [l0, l1, some (.ref a), l3] [.ref a] w 0 Q) ∧
  (∀ (d : Nat) (l0 l1 l3 : Option Value)  (w : px_H) (Q : Option Value → px_H → Prop), wp d 101 13 [l0, l1, some .null, l3] [] w 0 Q ↔ wp d 101 14 [l0, l1, some .null, l3] [.null] w 0 Q) ∧
  (∀ (d : Nat) (l0 l1 l2 l3 : Option Value)  (b : Nat) (w : px_H) (Q : Option Value → px_H → Prop), wp (d + 1) 101 14 [l0, l1, l2, l3] [.ref b] w 0 Q ↔ px_op (px_tgt w b [(6, 67)]) (fun v => wc d v [.ref b] w (fun r w' => wp (d + 1) 101 17 [l0, l1, l2, l3] (r.toList ++ []) w' 0 Q))) ∧
  (∀ (d : Nat) (l0 l1 l2 l3 : Option Value) (x : Int32) (w : px_H) (Q : Option Value → px_H → Prop), wp d 101 17 [l0, l1, l2, l3] [.int x] w 0 Q ↔ if x = 0 then wp d 101 26 [l0, l1, l2, l3] [] w 0 Q else wp d 101 20 [l0, l1, l2, l3] [] w 0 Q) ∧
  (∀ (d : Nat) (l1 l2 l3 : Option Value) (a : Nat) (w : px_H) (Q : Option Value → px_H → Prop), wp d 101 20 [some (.ref a), l1, l2, l3] [] w 0 Q ↔ wp d 101 21 [some (.ref a), l1, l2, l3] [.ref a] w 0 Q) ∧
  (∀ (d : Nat) (l0 l1 l2 l3 : Option Value) (s0 : Value)  (w : px_H) (Q : Option Value → px_H → Prop), wp d 101 21 [l0, l1, l2, l3] [s0] w 0 Q ↔ wp d 101 22 [l0, l1, l2, l3] [.int 1, s0] w 0 Q) ∧
  (∀ (d : Nat) (l0 l1 l2 l3 : Option Value) (v0 : Value) (b : Nat) (w : px_H) (Q : Option Value → px_H → Prop), wp (d + 1) 101 22 [l0, l1, l2, l3] [v0, .ref b] w 0 Q ↔ px_op (px_tgt w b [(10, 129)]) (fun v => wc d v [.ref b, v0] w (fun r w' => wp (d + 1) 101 25 [l0, l1, l2, l3] (r.toList ++ []) w' 0 Q))) ∧
  (∀ (d : Nat) (l0 l1 l2 l3 : Option Value) (x : Int32) (w : px_H) (Q : Option Value → px_H → Prop), wp d 101 25 [l0, l1, l2, l3] [.int x] w 0 Q ↔ Q (some (.int x)) w) ∧
  (∀ (d : Nat) (l0 l1 l3 : Option Value) (a : Nat) (w : px_H) (Q : Option Value → px_H → Prop), wp d 101 26 [l0, l1, some (.ref a), l3] [] w 0 Q ↔ wp d 101 27 [l0, l1, some (.ref a), l3] [.ref a] w 0 Q) ∧
  (∀ (d : Nat) (l0 l1 l3 : Option Value)  (w : px_H) (Q : Option Value → px_H → Prop), wp d 101 26 [l0, l1, some .null, l3] [] w 0 Q ↔ wp d 101 27 [l0, l1, some .null, l3] [.null] w 0 Q) ∧
  (∀ (d : Nat) (l0 l1 l2 l3 : Option Value) (a : Nat) (w : px_H) (Q : Option Value → px_H → Prop), wp d 101 27 [l0, l1, l2, l3] [.ref a] w 0 Q ↔ px_op (px_fld w a [(6, 0)] 2) (fun v => wp d 101 30 [l0, l1, l2, l3] [v] w 0 Q)) ∧
  (∀ (d : Nat) (l0 l1 l2 l3 : Option Value) (x : Int32) (w : px_H) (Q : Option Value → px_H → Prop), wp d 101 30 [l0, l1, l2, l3] [.int x] w 0 Q ↔ wp d 101 31 [l0, l1, l2, some (.int x)] [] w 0 Q) ∧
  (∀ (d : Nat) (l0 l1 l3 : Option Value) (a : Nat) (w : px_H) (Q : Option Value → px_H → Prop), wp d 101 31 [l0, l1, some (.ref a), l3] [] w 0 Q ↔ wp d 101 32 [l0, l1, some (.ref a), l3] [.ref a] w 0 Q) ∧
  (∀ (d : Nat) (l0 l1 l3 : Option Value)  (w : px_H) (Q : Option Value → px_H → Prop), wp d 101 31 [l0, l1, some .null, l3] [] w 0 Q ↔ wp d 101 32 [l0, l1, some .null, l3] [.null] w 0 Q) ∧
  (∀ (d : Nat) (l0 l1 l2 l3 : Option Value)  (b : Nat) (w : px_H) (Q : Option Value → px_H → Prop), wp (d + 1) 101 32 [l0, l1, l2, l3] [.ref b] w 0 Q ↔ px_op (px_tgt w b [(6, 68)]) (fun v => wc d v [.ref b] w (fun r w' => wp (d + 1) 101 35 [l0, l1, l2, l3] (r.toList ++ []) w' 0 Q))) ∧
  (∀ (d : Nat) (l1 l2 l3 : Option Value) (a : Nat) (w : px_H) (Q : Option Value → px_H → Prop), wp d 101 35 [some (.ref a), l1, l2, l3] [] w 0 Q ↔ wp d 101 36 [some (.ref a), l1, l2, l3] [.ref a] w 0 Q) ∧
  (∀ (d : Nat) (l0 l1 l2 : Option Value) (s0 : Value) (x : Int32) (w : px_H) (Q : Option Value → px_H → Prop), wp d 101 36 [l0, l1, l2, some (.int x)] [s0] w 0 Q ↔ wp d 101 37 [l0, l1, l2, some (.int x)] [.int x, s0] w 0 Q) ∧
  (∀ (d : Nat) (l0 l1 l2 l3 : Option Value) (v0 : Value) (b : Nat) (w : px_H) (Q : Option Value → px_H → Prop), wp (d + 1) 101 37 [l0, l1, l2, l3] [v0, .ref b] w 0 Q ↔ px_op (px_tgt w b [(10, 130)]) (fun v => wc d v [.ref b, v0] w (fun r w' => wp (d + 1) 101 40 [l0, l1, l2, l3] (r.toList ++ []) w' 0 Q))) ∧
  (∀ (d : Nat) (l0 l1 l2 l3 : Option Value) (x : Int32) (w : px_H) (Q : Option Value → px_H → Prop), wp d 101 40 [l0, l1, l2, l3] [.int x] w 0 Q ↔ Q (some (.int x)) w) := ⟨fun d v0 v1 w Q => r_entry pt_101 (Nat.le_of_ble_eq_true rfl) rfl,
  fun d l1 l2 l3 a w Q => px_go (q := (.aload_n 0, 1, px_x0)) (S' := (1, [some (.ref a), l1, l2, l3], [.ref a], w, 0)) pt_101 rfl rfl,
  fun d l0 l2 l3 s0 x w Q => px_go (q := (.iload_n 1, 1, px_x0)) (S' := (2, [l0, some (.int x), l2, l3], [.int x, s0], w, 0)) pt_101 rfl rfl,
  fun d l0 l1 l2 l3 v0 b w Q => r_callV (q := (.invokevirtual 58, 3, (33, 1, [(10, 131)], 0, ""))) pt_101 rfl rfl (List.forall_mem_cons.mpr ⟨⟨_, pt_131, Nat.le_of_ble_eq_true rfl, (Nat.le_of_ble_eq_true rfl), rfl⟩, fun _ h => absurd h List.not_mem_nil⟩),
  fun d l0 l1 l2 l3 a w Q => px_go (q := (.astore_n 2, 1, px_x0)) (S' := (6, [l0, l1, some (.ref a), l3], [], w, 0)) pt_101 rfl rfl,
  fun d l0 l1 l2 l3 w Q => px_go (q := (.astore_n 2, 1, px_x0)) (S' := (6, [l0, l1, some .null, l3], [], w, 0)) pt_101 rfl rfl,
  fun d l0 l1 l3 a w Q => px_go (q := (.aload_n 2, 1, px_x0)) (S' := (7, [l0, l1, some (.ref a), l3], [.ref a], w, 0)) pt_101 rfl rfl,
  fun d l0 l1 l3 w Q => px_go (q := (.aload_n 2, 1, px_x0)) (S' := (7, [l0, l1, some .null, l3], [.null], w, 0)) pt_101 rfl rfl,
  fun d l0 l1 l2 l3 a w Q => r_ifnonnull pt_101 rfl rfl,
  fun d l0 l1 l2 l3 w Q => px_go (q := (.ifnonnull 6, 3, px_x0)) (S' := (10, [l0, l1, l2, l3], [], w, 0)) pt_101 rfl rfl,
  fun d l0 l1 l2 l3 w Q => px_go (q := (.ldc 62, 2, (0, 0, [], (-1000001), ""))) (S' := (12, [l0, l1, l2, l3], [.int (-1000001)], w, 0)) pt_101 rfl rfl,
  fun d l0 l1 l2 l3 x w Q => px_ret (q := (.ireturn, 1, px_x0)) pt_101 rfl rfl,
  fun d l0 l1 l3 a w Q => px_go (q := (.aload_n 2, 1, px_x0)) (S' := (14, [l0, l1, some (.ref a), l3], [.ref a], w, 0)) pt_101 rfl rfl,
  fun d l0 l1 l3 w Q => px_go (q := (.aload_n 2, 1, px_x0)) (S' := (14, [l0, l1, some .null, l3], [.null], w, 0)) pt_101 rfl rfl,
  fun d l0 l1 l2 l3 b w Q => r_callV (q := (.invokevirtual 74, 3, (33, 0, [(6, 67)], 0, ""))) pt_101 rfl rfl (List.forall_mem_cons.mpr ⟨⟨_, pt_67, Nat.le_of_ble_eq_true rfl, (Nat.le_of_ble_eq_true rfl), rfl⟩, fun _ h => absurd h List.not_mem_nil⟩),
  fun d l0 l1 l2 l3 x w Q => r_if_eq pt_101 rfl rfl,
  fun d l1 l2 l3 a w Q => px_go (q := (.aload_n 0, 1, px_x0)) (S' := (21, [some (.ref a), l1, l2, l3], [.ref a], w, 0)) pt_101 rfl rfl,
  fun d l0 l1 l2 l3 s0 w Q => r_iconst pt_101 rfl (by decide),
  fun d l0 l1 l2 l3 v0 b w Q => r_callV (q := (.invokevirtual 63, 3, (33, 1, [(10, 129)], 0, ""))) pt_101 rfl rfl (List.forall_mem_cons.mpr ⟨⟨_, pt_129, Nat.le_of_ble_eq_true rfl, (Nat.le_of_ble_eq_true rfl), rfl⟩, fun _ h => absurd h List.not_mem_nil⟩),
  fun d l0 l1 l2 l3 x w Q => px_ret (q := (.ireturn, 1, px_x0)) pt_101 rfl rfl,
  fun d l0 l1 l3 a w Q => px_go (q := (.aload_n 2, 1, px_x0)) (S' := (27, [l0, l1, some (.ref a), l3], [.ref a], w, 0)) pt_101 rfl rfl,
  fun d l0 l1 l3 w Q => px_go (q := (.aload_n 2, 1, px_x0)) (S' := (27, [l0, l1, some .null, l3], [.null], w, 0)) pt_101 rfl rfl,
  fun d l0 l1 l2 l3 a w Q => px_goO (q := (.getfield 93, 3, (11, 2, [(6, 0)], 0, "AllSworn$Row"))) (S' := fun v => (30, [l0, l1, l2, l3], [v], w, 0)) pt_101 rfl rfl,
  fun d l0 l1 l2 l3 x w Q => px_go (q := (.istore_n 3, 1, px_x0)) (S' := (31, [l0, l1, l2, some (.int x)], [], w, 0)) pt_101 rfl rfl,
  fun d l0 l1 l3 a w Q => px_go (q := (.aload_n 2, 1, px_x0)) (S' := (32, [l0, l1, some (.ref a), l3], [.ref a], w, 0)) pt_101 rfl rfl,
  fun d l0 l1 l3 w Q => px_go (q := (.aload_n 2, 1, px_x0)) (S' := (32, [l0, l1, some .null, l3], [.null], w, 0)) pt_101 rfl rfl,
  fun d l0 l1 l2 l3 b w Q => r_callV (q := (.invokevirtual 96, 3, (33, 0, [(6, 68)], 0, ""))) pt_101 rfl rfl (List.forall_mem_cons.mpr ⟨⟨_, pt_68, Nat.le_of_ble_eq_true rfl, (Nat.le_of_ble_eq_true rfl), rfl⟩, fun _ h => absurd h List.not_mem_nil⟩),
  fun d l1 l2 l3 a w Q => px_go (q := (.aload_n 0, 1, px_x0)) (S' := (36, [some (.ref a), l1, l2, l3], [.ref a], w, 0)) pt_101 rfl rfl,
  fun d l0 l1 l2 s0 x w Q => px_go (q := (.iload_n 3, 1, px_x0)) (S' := (37, [l0, l1, l2, some (.int x)], [.int x, s0], w, 0)) pt_101 rfl rfl,
  fun d l0 l1 l2 l3 v0 b w Q => r_callV (q := (.invokevirtual 71, 3, (33, 1, [(10, 130)], 0, ""))) pt_101 rfl rfl (List.forall_mem_cons.mpr ⟨⟨_, pt_130, Nat.le_of_ble_eq_true rfl, (Nat.le_of_ble_eq_true rfl), rfl⟩, fun _ h => absurd h List.not_mem_nil⟩),
  fun d l0 l1 l2 l3 x w Q => px_ret (q := (.ireturn, 1, px_x0)) pt_101 rfl rfl⟩
/-- AllSworn.feed(I)I -/
theorem S102 : (∀ (d : Nat) (v0 v1 : Value) (w : px_H) (Q : Option Value → px_H → Prop), wc d 102 [v0, v1] w Q ↔ wp d 102 0 [some v0, some v1] [] w 0 Q) ∧
  (∀ (d : Nat) (l0 : Option Value) (x : Int32) (w : px_H) (Q : Option Value → px_H → Prop), wp d 102 0 [l0, some (.int x)] [] w 0 Q ↔ wp d 102 1 [l0, some (.int x)] [.int x] w 0 Q) ∧
  (∀ (d : Nat) (l0 l1 : Option Value) (x : Int32) (w : px_H) (Q : Option Value → px_H → Prop), wp d 102 1 [l0, l1] [.int x] w 0 Q ↔ if x < 0 then wp d 102 11 [l0, l1] [] w 0 Q else wp d 102 4 [l0, l1] [] w 0 Q) ∧
  (∀ (d : Nat) (l0 : Option Value) (x : Int32) (w : px_H) (Q : Option Value → px_H → Prop), wp d 102 4 [l0, some (.int x)] [] w 0 Q ↔ wp d 102 5 [l0, some (.int x)] [.int x] w 0 Q) ∧
  (∀ (d : Nat) (l0 l1 : Option Value) (s0 : Value)  (w : px_H) (Q : Option Value → px_H → Prop), wp d 102 5 [l0, l1] [s0] w 0 Q ↔ wp d 102 8 [l0, l1] [.int 255, s0] w 0 Q) ∧
  (∀ (d : Nat) (l0 l1 : Option Value) (x y : Int32) (w : px_H) (Q : Option Value → px_H → Prop), wp d 102 8 [l0, l1] [.int y, .int x] w 0 Q ↔ if x ≤ y then wp d 102 14 [l0, l1] [] w 0 Q else wp d 102 11 [l0, l1] [] w 0 Q) ∧
  (∀ (d : Nat) (l0 l1 : Option Value)  (w : px_H) (Q : Option Value → px_H → Prop), wp d 102 11 [l0, l1] [] w 0 Q ↔ wp d 102 13 [l0, l1] [.int (-1000001)] w 0 Q) ∧
  (∀ (d : Nat) (l0 l1 : Option Value) (x : Int32) (w : px_H) (Q : Option Value → px_H → Prop), wp d 102 13 [l0, l1] [.int x] w 0 Q ↔ Q (some (.int x)) w) ∧
  (∀ (d : Nat) (l1 : Option Value) (a : Nat) (w : px_H) (Q : Option Value → px_H → Prop), wp d 102 14 [some (.ref a), l1] [] w 0 Q ↔ wp d 102 15 [some (.ref a), l1] [.ref a] w 0 Q) ∧
  (∀ (d : Nat) (l0 l1 : Option Value) (a : Nat) (w : px_H) (Q : Option Value → px_H → Prop), wp d 102 15 [l0, l1] [.ref a] w 0 Q ↔ px_op (px_fld w a [(10, 0)] 1) (fun v => wp d 102 18 [l0, l1] [v] w 0 Q)) ∧
  (∀ (d : Nat) (l0 : Option Value) (s0 : Value) (x : Int32) (w : px_H) (Q : Option Value → px_H → Prop), wp d 102 18 [l0, some (.int x)] [s0] w 0 Q ↔ wp d 102 19 [l0, some (.int x)] [.int x, s0] w 0 Q) ∧
  (∀ (d : Nat) (l0 l1 : Option Value) (v0 : Value) (b : Nat) (w : px_H) (Q : Option Value → px_H → Prop), wp (d + 1) 102 19 [l0, l1] [v0, .ref b] w 0 Q ↔ px_op (px_tgt w b [(4, 31)]) (fun v => wc d v [.ref b, v0] w (fun r w' => wp (d + 1) 102 22 [l0, l1] (r.toList ++ []) w' 0 Q))) ∧
  (∀ (d : Nat) (l0 l1 : Option Value) (x : Int32) (w : px_H) (Q : Option Value → px_H → Prop), wp d 102 22 [l0, l1] [.int x] w 0 Q ↔ if x = 0 then wp d 102 35 [l0, l1] [] w 0 Q else wp d 102 25 [l0, l1] [] w 0 Q) ∧
  (∀ (d : Nat) (l1 : Option Value) (a : Nat) (w : px_H) (Q : Option Value → px_H → Prop), wp d 102 25 [some (.ref a), l1] [] w 0 Q ↔ wp d 102 26 [some (.ref a), l1] [.ref a] w 0 Q) ∧
  (∀ (d : Nat) (l0 l1 : Option Value) (a : Nat) (w : px_H) (Q : Option Value → px_H → Prop), wp d 102 26 [l0, l1] [.ref a] w 0 Q ↔ px_op (px_fld w a [(10, 0)] 1) (fun v => wp d 102 29 [l0, l1] [v] w 0 Q)) ∧
  (∀ (d : Nat) (l0 l1 : Option Value) (a : Nat) (w : px_H) (Q : Option Value → px_H → Prop), wp d 102 29 [l0, l1] [.ref a] w 0 Q ↔ px_op (px_fld w a [(4, 0)] 1) (fun v => wp d 102 32 [l0, l1] [v] w 0 Q)) ∧
  (∀ (d : Nat) (l0 l1 : Option Value) (s0 : Value)  (w : px_H) (Q : Option Value → px_H → Prop), wp d 102 32 [l0, l1] [s0] w 0 Q ↔ wp d 102 37 [l0, l1] [s0] w 0 Q) ∧
  (∀ (d : Nat) (l0 l1 : Option Value)  (w : px_H) (Q : Option Value → px_H → Prop), wp d 102 35 [l0, l1] [] w 0 Q ↔ wp d 102 37 [l0, l1] [.int (-1000003)] w 0 Q) ∧
  (∀ (d : Nat) (l0 l1 : Option Value) (x : Int32) (w : px_H) (Q : Option Value → px_H → Prop), wp d 102 37 [l0, l1] [.int x] w 0 Q ↔ Q (some (.int x)) w) := ⟨fun d v0 v1 w Q => r_entry pt_102 (Nat.le_of_ble_eq_true rfl) rfl,
  fun d l0 x w Q => px_go (q := (.iload_n 1, 1, px_x0)) (S' := (1, [l0, some (.int x)], [.int x], w, 0)) pt_102 rfl rfl,
  fun d l0 l1 x w Q => r_if_lt pt_102 rfl rfl,
  fun d l0 x w Q => px_go (q := (.iload_n 1, 1, px_x0)) (S' := (5, [l0, some (.int x)], [.int x], w, 0)) pt_102 rfl rfl,
  fun d l0 l1 s0 w Q => r_sipush pt_102 rfl (by decide),
  fun d l0 l1 x y w Q => r_icmp_le pt_102 rfl rfl,
  fun d l0 l1 w Q => px_go (q := (.ldc 62, 2, (0, 0, [], (-1000001), ""))) (S' := (13, [l0, l1], [.int (-1000001)], w, 0)) pt_102 rfl rfl,
  fun d l0 l1 x w Q => px_ret (q := (.ireturn, 1, px_x0)) pt_102 rfl rfl,
  fun d l1 a w Q => px_go (q := (.aload_n 0, 1, px_x0)) (S' := (15, [some (.ref a), l1], [.ref a], w, 0)) pt_102 rfl rfl,
  fun d l0 l1 a w Q => px_goO (q := (.getfield 18, 3, (10, 1, [(10, 0)], 0, "AllSworn"))) (S' := fun v => (18, [l0, l1], [v], w, 0)) pt_102 rfl rfl,
  fun d l0 s0 x w Q => px_go (q := (.iload_n 1, 1, px_x0)) (S' := (19, [l0, some (.int x)], [.int x, s0], w, 0)) pt_102 rfl rfl,
  fun d l0 l1 v0 b w Q => r_callV (q := (.invokevirtual 99, 3, (33, 1, [(4, 31)], 0, ""))) pt_102 rfl rfl (List.forall_mem_cons.mpr ⟨⟨_, pt_31, Nat.le_of_ble_eq_true rfl, (Nat.le_of_ble_eq_true rfl), rfl⟩, fun _ h => absurd h List.not_mem_nil⟩),
  fun d l0 l1 x w Q => r_if_eq pt_102 rfl rfl,
  fun d l1 a w Q => px_go (q := (.aload_n 0, 1, px_x0)) (S' := (26, [some (.ref a), l1], [.ref a], w, 0)) pt_102 rfl rfl,
  fun d l0 l1 a w Q => px_goO (q := (.getfield 18, 3, (10, 1, [(10, 0)], 0, "AllSworn"))) (S' := fun v => (29, [l0, l1], [v], w, 0)) pt_102 rfl rfl,
  fun d l0 l1 a w Q => px_goO (q := (.getfield 103, 3, (11, 1, [(4, 0)], 0, "AllSworn$Reader"))) (S' := fun v => (32, [l0, l1], [v], w, 0)) pt_102 rfl rfl,
  fun d l0 l1 s0 w Q => r_goto pt_102 rfl rfl,
  fun d l0 l1 w Q => px_go (q := (.ldc 106, 2, (0, 0, [], (-1000003), ""))) (S' := (37, [l0, l1], [.int (-1000003)], w, 0)) pt_102 rfl rfl,
  fun d l0 l1 x w Q => px_ret (q := (.ireturn, 1, px_x0)) pt_102 rfl rfl⟩
/-- AllSworn.realm()I -/
theorem S103 : (∀ (d : Nat) (v0 : Value) (w : px_H) (Q : Option Value → px_H → Prop), wc d 103 [v0] w Q ↔ wp d 103 0 [some v0] [] w 0 Q) ∧
  (∀ (d : Nat) (a : Nat) (w : px_H) (k : Nat) (Q : Option Value → px_H → Prop), wp d 103 0 [some (.ref a)] [] w k Q ↔ wp d 103 1 [some (.ref a)] [.ref a] w k Q) ∧
  (∀ (d : Nat) (l0 : Option Value) (a : Nat) (w : px_H) (k : Nat) (Q : Option Value → px_H → Prop), wp d 103 1 [l0] [.ref a] w k Q ↔ px_op (px_fld w a [(10, 0)] 1) (fun v => wp d 103 4 [l0] [v] w k Q)) ∧
  (∀ (d : Nat) (s0 : Value) (a : Nat) (w : px_H) (k : Nat) (Q : Option Value → px_H → Prop), wp d 103 4 [some (.ref a)] [s0] w k Q ↔ wp d 103 5 [some (.ref a)] [.ref a, s0] w k Q) ∧
  (∀ (d : Nat) (l0 : Option Value) (s1 : Value) (a : Nat) (w : px_H) (k : Nat) (Q : Option Value → px_H → Prop), wp d 103 5 [l0] [.ref a, s1] w k Q ↔ px_op (px_fld w a [(10, 0)] 2) (fun v => wp d 103 8 [l0] [v, s1] w k Q)) ∧
  (∀ (d : Nat) (l0 : Option Value) (v0 : Value) (b : Nat) (w : px_H) (k : Nat) (Q : Option Value → px_H → Prop) (hk : k + 120 ≤ 120), wp (d + 1) 103 8 [l0] [v0, .ref b] w k Q ↔ px_op (px_tgt w b [(4, 32)]) (fun v => wc d v [.ref b, v0] w (fun r w' => wp (d + 1) 103 11 [l0] (r.toList ++ []) w' (k + 120) Q))) ∧
  (∀ (d : Nat) (l0 : Option Value) (x : Int32) (w : px_H) (k : Nat) (Q : Option Value → px_H → Prop), wp d 103 11 [l0] [.int x] w k Q ↔ if x = 0 then wp d 103 14 [l0] [] w k Q else wp d 103 36 [l0] [] w k Q) ∧
  (∀ (d : Nat) (a : Nat) (w : px_H) (k : Nat) (Q : Option Value → px_H → Prop), wp d 103 14 [some (.ref a)] [] w k Q ↔ wp d 103 15 [some (.ref a)] [.ref a] w k Q) ∧
  (∀ (d : Nat) (s0 : Value) (a : Nat) (w : px_H) (k : Nat) (Q : Option Value → px_H → Prop), wp d 103 15 [some (.ref a)] [s0] w k Q ↔ wp d 103 16 [some (.ref a)] [.ref a, s0] w k Q) ∧
  (∀ (d : Nat) (l0 : Option Value) (s1 : Value) (a : Nat) (w : px_H) (k : Nat) (Q : Option Value → px_H → Prop), wp d 103 16 [l0] [.ref a, s1] w k Q ↔ px_op (px_fld w a [(10, 0)] 1) (fun v => wp d 103 19 [l0] [v, s1] w k Q)) ∧
  (∀ (d : Nat) (l0 : Option Value) (s1 : Value) (a : Nat) (w : px_H) (k : Nat) (Q : Option Value → px_H → Prop), wp d 103 19 [l0] [.ref a, s1] w k Q ↔ px_op (px_fld w a [(4, 0)] 3) (fun v => wp d 103 22 [l0] [v, s1] w k Q)) ∧
  (∀ (d : Nat) (l0 : Option Value) (x : Int32) (a : Nat) (w : px_H) (k : Nat) (Q : Option Value → px_H → Prop), wp d 103 22 [l0] [.int x, .ref a] w k Q ↔ px_op (px_pfd w a [(10, 0)] 7 (.int x)) (fun w' => wp d 103 25 [l0] [] w' k Q)) ∧
  (∀ (d : Nat) (l0 : Option Value)  (w : px_H) (k : Nat) (Q : Option Value → px_H → Prop), wp d 103 25 [l0] [] w k Q ↔ wp d 103 27 [l0] [.int (-1000100)] w k Q) ∧
  (∀ (d : Nat) (s0 : Value) (a : Nat) (w : px_H) (k : Nat) (Q : Option Value → px_H → Prop), wp d 103 27 [some (.ref a)] [s0] w k Q ↔ wp d 103 28 [some (.ref a)] [.ref a, s0] w k Q) ∧
  (∀ (d : Nat) (l0 : Option Value) (s1 : Value) (a : Nat) (w : px_H) (k : Nat) (Q : Option Value → px_H → Prop), wp d 103 28 [l0] [.ref a, s1] w k Q ↔ px_op (px_fld w a [(10, 0)] 1) (fun v => wp d 103 31 [l0] [v, s1] w k Q)) ∧
  (∀ (d : Nat) (l0 : Option Value) (s1 : Value) (a : Nat) (w : px_H) (k : Nat) (Q : Option Value → px_H → Prop), wp d 103 31 [l0] [.ref a, s1] w k Q ↔ px_op (px_fld w a [(4, 0)] 4) (fun v => wp d 103 34 [l0] [v, s1] w k Q)) ∧
  (∀ (d : Nat) (l0 : Option Value) (x y : Int32) (w : px_H) (k : Nat) (Q : Option Value → px_H → Prop), wp d 103 34 [l0] [.int y, .int x] w k Q ↔ wp d 103 35 [l0] [.int (x - y)] w k Q) ∧
  (∀ (d : Nat) (l0 : Option Value) (x : Int32) (w : px_H) (k : Nat) (Q : Option Value → px_H → Prop), wp d 103 35 [l0] [.int x] w k Q ↔ Q (some (.int x)) w) ∧
  (∀ (d : Nat) (a : Nat) (w : px_H) (k : Nat) (Q : Option Value → px_H → Prop), wp d 103 36 [some (.ref a)] [] w k Q ↔ wp d 103 37 [some (.ref a)] [.ref a] w k Q) ∧
  (∀ (d : Nat) (l0 : Option Value) (a : Nat) (w : px_H) (k : Nat) (Q : Option Value → px_H → Prop), wp d 103 37 [l0] [.ref a] w k Q ↔ px_op (px_fld w a [(10, 0)] 3) (fun v => wp d 103 40 [l0] [v] w k Q)) ∧
  (∀ (d : Nat) (s0 : Value) (a : Nat) (w : px_H) (k : Nat) (Q : Option Value → px_H → Prop), wp d 103 40 [some (.ref a)] [s0] w k Q ↔ wp d 103 41 [some (.ref a)] [.ref a, s0] w k Q) ∧
  (∀ (d : Nat) (l0 : Option Value) (s1 : Value) (a : Nat) (w : px_H) (k : Nat) (Q : Option Value → px_H → Prop), wp d 103 41 [l0] [.ref a, s1] w k Q ↔ px_op (px_fld w a [(10, 0)] 2) (fun v => wp d 103 44 [l0] [v, s1] w k Q)) ∧
  (∀ (d : Nat) (l0 : Option Value) (v0 : Value) (b : Nat) (w : px_H) (k : Nat) (Q : Option Value → px_H → Prop) (hk : k + 0 ≤ 120), wp (d + 1) 103 44 [l0] [v0, .ref b] w k Q ↔ px_op (px_tgt w b [(5, 46)]) (fun v => wc d v [.ref b, v0] w (fun r w' => wp (d + 1) 103 47 [l0] (r.toList ++ []) w' k Q))) ∧
  (∀ (d : Nat) (a : Nat) (w : px_H) (k : Nat) (Q : Option Value → px_H → Prop), wp d 103 47 [some (.ref a)] [] w k Q ↔ wp d 103 48 [some (.ref a)] [.ref a] w k Q) ∧
  (∀ (d : Nat) (l0 : Option Value) (a : Nat) (w : px_H) (k : Nat) (Q : Option Value → px_H → Prop), wp d 103 48 [l0] [.ref a] w k Q ↔ px_op (px_fld w a [(10, 0)] 3) (fun v => wp d 103 51 [l0] [v] w k Q)) ∧
  (∀ (d : Nat) (l0 : Option Value) (a : Nat) (w : px_H) (k : Nat) (Q : Option Value → px_H → Prop), wp d 103 51 [l0] [.ref a] w k Q ↔ px_op (px_fld w a [(5, 0)] 5) (fun v => wp d 103 54 [l0] [v] w k Q)) ∧
  (∀ (d : Nat) (l0 : Option Value) (x : Int32) (w : px_H) (k : Nat) (Q : Option Value → px_H → Prop), wp d 103 54 [l0] [.int x] w k Q ↔ Q (some (.int x)) w) := ⟨fun d v0 w Q => r_entry pt_103 (Nat.le_of_ble_eq_true rfl) rfl,
  fun d a w k Q => px_go (q := (.aload_n 0, 1, px_x0)) (S' := (1, [some (.ref a)], [.ref a], w, k)) pt_103 rfl rfl,
  fun d l0 a w k Q => px_goO (q := (.getfield 18, 3, (10, 1, [(10, 0)], 0, "AllSworn"))) (S' := fun v => (4, [l0], [v], w, k)) pt_103 rfl rfl,
  fun d s0 a w k Q => px_go (q := (.aload_n 0, 1, px_x0)) (S' := (5, [some (.ref a)], [.ref a, s0], w, k)) pt_103 rfl rfl,
  fun d l0 s1 a w k Q => px_goO (q := (.getfield 25, 3, (10, 2, [(10, 0)], 0, "AllSworn"))) (S' := fun v => (8, [l0], [v, s1], w, k)) pt_103 rfl rfl,
  fun d l0 v0 b w k Q hk => r_callV (q := (.invokevirtual 107, 3, (33, 1, [(4, 32)], 0, ""))) pt_103 rfl rfl (List.forall_mem_cons.mpr ⟨⟨_, pt_32, Nat.le_of_ble_eq_true rfl, hk, rfl⟩, fun _ h => absurd h List.not_mem_nil⟩),
  fun d l0 x w k Q => r_if_ne pt_103 rfl rfl,
  fun d a w k Q => px_go (q := (.aload_n 0, 1, px_x0)) (S' := (15, [some (.ref a)], [.ref a], w, k)) pt_103 rfl rfl,
  fun d s0 a w k Q => px_go (q := (.aload_n 0, 1, px_x0)) (S' := (16, [some (.ref a)], [.ref a, s0], w, k)) pt_103 rfl rfl,
  fun d l0 s1 a w k Q => px_goO (q := (.getfield 18, 3, (10, 1, [(10, 0)], 0, "AllSworn"))) (S' := fun v => (19, [l0], [v, s1], w, k)) pt_103 rfl rfl,
  fun d l0 s1 a w k Q => px_goO (q := (.getfield 111, 3, (11, 3, [(4, 0)], 0, "AllSworn$Reader"))) (S' := fun v => (22, [l0], [v, s1], w, k)) pt_103 rfl rfl,
  fun d l0 x a w k Q => r_put pt_103 rfl (by simp only [List.all_cons, List.all_nil, ft_10_7, px_fit, px_isr, Bool.and_self]),
  fun d l0 w k Q => px_go (q := (.ldc 114, 2, (0, 0, [], (-1000100), ""))) (S' := (27, [l0], [.int (-1000100)], w, k)) pt_103 rfl rfl,
  fun d s0 a w k Q => px_go (q := (.aload_n 0, 1, px_x0)) (S' := (28, [some (.ref a)], [.ref a, s0], w, k)) pt_103 rfl rfl,
  fun d l0 s1 a w k Q => px_goO (q := (.getfield 18, 3, (10, 1, [(10, 0)], 0, "AllSworn"))) (S' := fun v => (31, [l0], [v, s1], w, k)) pt_103 rfl rfl,
  fun d l0 s1 a w k Q => px_goO (q := (.getfield 115, 3, (11, 4, [(4, 0)], 0, "AllSworn$Reader"))) (S' := fun v => (34, [l0], [v, s1], w, k)) pt_103 rfl rfl,
  fun d l0 x y w k Q => px_go (q := (.isub, 1, px_x0)) (S' := (35, [l0], [.int (x - y)], w, k)) pt_103 rfl rfl,
  fun d l0 x w k Q => px_ret (q := (.ireturn, 1, px_x0)) pt_103 rfl rfl,
  fun d a w k Q => px_go (q := (.aload_n 0, 1, px_x0)) (S' := (37, [some (.ref a)], [.ref a], w, k)) pt_103 rfl rfl,
  fun d l0 a w k Q => px_goO (q := (.getfield 29, 3, (10, 3, [(10, 0)], 0, "AllSworn"))) (S' := fun v => (40, [l0], [v], w, k)) pt_103 rfl rfl,
  fun d s0 a w k Q => px_go (q := (.aload_n 0, 1, px_x0)) (S' := (41, [some (.ref a)], [.ref a, s0], w, k)) pt_103 rfl rfl,
  fun d l0 s1 a w k Q => px_goO (q := (.getfield 25, 3, (10, 2, [(10, 0)], 0, "AllSworn"))) (S' := fun v => (44, [l0], [v, s1], w, k)) pt_103 rfl rfl,
  fun d l0 v0 b w k Q hk => r_callV (q := (.invokevirtual 118, 3, (33, 1, [(5, 46)], 0, ""))) pt_103 rfl rfl (List.forall_mem_cons.mpr ⟨⟨_, pt_46, Nat.le_of_ble_eq_true rfl, hk, rfl⟩, fun _ h => absurd h List.not_mem_nil⟩),
  fun d a w k Q => px_go (q := (.aload_n 0, 1, px_x0)) (S' := (48, [some (.ref a)], [.ref a], w, k)) pt_103 rfl rfl,
  fun d l0 a w k Q => px_goO (q := (.getfield 29, 3, (10, 3, [(10, 0)], 0, "AllSworn"))) (S' := fun v => (51, [l0], [v], w, k)) pt_103 rfl rfl,
  fun d l0 a w k Q => px_goO (q := (.getfield 122, 3, (11, 5, [(5, 0)], 0, "AllSworn$Realm"))) (S' := fun v => (54, [l0], [v], w, k)) pt_103 rfl rfl,
  fun d l0 x w k Q => px_ret (q := (.ireturn, 1, px_x0)) pt_103 rfl rfl⟩
/-- AllSworn.fault()I -/
theorem S104 : (∀ (d : Nat) (v0 : Value) (w : px_H) (Q : Option Value → px_H → Prop), wc d 104 [v0] w Q ↔ wp d 104 0 [some v0] [] w 0 Q) ∧
  (∀ (d : Nat) (a : Nat) (w : px_H) (Q : Option Value → px_H → Prop), wp d 104 0 [some (.ref a)] [] w 0 Q ↔ wp d 104 1 [some (.ref a)] [.ref a] w 0 Q) ∧
  (∀ (d : Nat) (l0 : Option Value) (a : Nat) (w : px_H) (Q : Option Value → px_H → Prop), wp d 104 1 [l0] [.ref a] w 0 Q ↔ px_op (px_fld w a [(10, 0)] 7) (fun v => wp d 104 4 [l0] [v] w 0 Q)) ∧
  (∀ (d : Nat) (l0 : Option Value) (x : Int32) (w : px_H) (Q : Option Value → px_H → Prop), wp d 104 4 [l0] [.int x] w 0 Q ↔ Q (some (.int x)) w) := ⟨fun d v0 w Q => r_entry pt_104 (Nat.le_of_ble_eq_true rfl) rfl,
  fun d a w Q => px_go (q := (.aload_n 0, 1, px_x0)) (S' := (1, [some (.ref a)], [.ref a], w, 0)) pt_104 rfl rfl,
  fun d l0 a w Q => px_goO (q := (.getfield 50, 3, (10, 7, [(10, 0)], 0, "AllSworn"))) (S' := fun v => (4, [l0], [v], w, 0)) pt_104 rfl rfl,
  fun d l0 x w Q => px_ret (q := (.ireturn, 1, px_x0)) pt_104 rfl rfl⟩
/-- AllSworn.askFor(I)I -/
theorem S105 : (∀ (d : Nat) (v0 v1 : Value) (w : px_H) (Q : Option Value → px_H → Prop), wc d 105 [v0, v1] w Q ↔ wp d 105 0 [some v0, some v1, none] [] w 0 Q) ∧
  (∀ (d : Nat) (l1 l2 : Option Value) (a : Nat) (w : px_H) (Q : Option Value → px_H → Prop), wp d 105 0 [some (.ref a), l1, l2] [] w 0 Q ↔ wp d 105 1 [some (.ref a), l1, l2] [.ref a] w 0 Q) ∧
  (∀ (d : Nat) (l0 l1 l2 : Option Value) (a : Nat) (w : px_H) (Q : Option Value → px_H → Prop), wp d 105 1 [l0, l1, l2] [.ref a] w 0 Q ↔ px_op (px_fld w a [(10, 0)] 3) (fun v => wp d 105 4 [l0, l1, l2] [v] w 0 Q)) ∧
  (∀ (d : Nat) (l0 l2 : Option Value) (s0 : Value) (x : Int32) (w : px_H) (Q : Option Value → px_H → Prop), wp d 105 4 [l0, some (.int x), l2] [s0] w 0 Q ↔ wp d 105 5 [l0, some (.int x), l2] [.int x, s0] w 0 Q) ∧
  (∀ (d : Nat) (l0 l1 l2 : Option Value) (v0 : Value) (b : Nat) (w : px_H) (Q : Option Value → px_H → Prop), wp (d + 1) 105 5 [l0, l1, l2] [v0, .ref b] w 0 Q ↔ px_op (px_tgt w b [(5, 47)]) (fun v => wc d v [.ref b, v0] w (fun r w' => wp (d + 1) 105 8 [l0, l1, l2] (r.toList ++ []) w' 0 Q))) ∧
  (∀ (d : Nat) (l0 l1 l2 : Option Value) (a : Nat) (w : px_H) (Q : Option Value → px_H → Prop), wp d 105 8 [l0, l1, l2] [.ref a] w 0 Q ↔ wp d 105 9 [l0, l1, some (.ref a)] [] w 0 Q) ∧
  (∀ (d : Nat) (l0 l1 l2 : Option Value)  (w : px_H) (Q : Option Value → px_H → Prop), wp d 105 8 [l0, l1, l2] [.null] w 0 Q ↔ wp d 105 9 [l0, l1, some .null] [] w 0 Q) ∧
  (∀ (d : Nat) (l0 l1 : Option Value) (a : Nat) (w : px_H) (Q : Option Value → px_H → Prop), wp d 105 9 [l0, l1, some (.ref a)] [] w 0 Q ↔ wp d 105 10 [l0, l1, some (.ref a)] [.ref a] w 0 Q) ∧
  (∀ (d : Nat) (l0 l1 : Option Value)  (w : px_H) (Q : Option Value → px_H → Prop), wp d 105 9 [l0, l1, some .null] [] w 0 Q ↔ wp d 105 10 [l0, l1, some .null] [.null] w 0 Q) ∧
  (∀ (d : Nat) (l0 l1 l2 : Option Value) (a : Nat) (w : px_H) (Q : Option Value → px_H → Prop), wp d 105 10 [l0, l1, l2] [.ref a] w 0 Q ↔ wp d 105 16 [l0, l1, l2] [] w 0 Q) ∧
  (∀ (d : Nat) (l0 l1 l2 : Option Value)  (w : px_H) (Q : Option Value → px_H → Prop), wp d 105 10 [l0, l1, l2] [.null] w 0 Q ↔ wp d 105 13 [l0, l1, l2] [] w 0 Q) ∧
  (∀ (d : Nat) (l0 l1 l2 : Option Value)  (w : px_H) (Q : Option Value → px_H → Prop), wp d 105 13 [l0, l1, l2] [] w 0 Q ↔ wp d 105 15 [l0, l1, l2] [.int (-1000001)] w 0 Q) ∧
  (∀ (d : Nat) (l0 l1 l2 : Option Value) (x : Int32) (w : px_H) (Q : Option Value → px_H → Prop), wp d 105 15 [l0, l1, l2] [.int x] w 0 Q ↔ Q (some (.int x)) w) ∧
  (∀ (d : Nat) (l1 l2 : Option Value) (a : Nat) (w : px_H) (Q : Option Value → px_H → Prop), wp d 105 16 [some (.ref a), l1, l2] [] w 0 Q ↔ wp d 105 17 [some (.ref a), l1, l2] [.ref a] w 0 Q) ∧
  (∀ (d : Nat) (l0 l1 l2 : Option Value) (a : Nat) (w : px_H) (Q : Option Value → px_H → Prop), wp d 105 17 [l0, l1, l2] [.ref a] w 0 Q ↔ px_op (px_fld w a [(10, 0)] 3) (fun v => wp d 105 20 [l0, l1, l2] [v] w 0 Q)) ∧
  (∀ (d : Nat) (l0 l1 l2 : Option Value) (a : Nat) (w : px_H) (Q : Option Value → px_H → Prop), wp d 105 20 [l0, l1, l2] [.ref a] w 0 Q ↔ px_op (px_fld w a [(5, 0)] 8) (fun v => wp d 105 23 [l0, l1, l2] [v] w 0 Q)) ∧
  (∀ (d : Nat) (l0 l1 : Option Value) (s0 : Value) (a : Nat) (w : px_H) (Q : Option Value → px_H → Prop), wp d 105 23 [l0, l1, some (.ref a)] [s0] w 0 Q ↔ wp d 105 24 [l0, l1, some (.ref a)] [.ref a, s0] w 0 Q) ∧
  (∀ (d : Nat) (l0 l1 : Option Value) (s0 : Value)  (w : px_H) (Q : Option Value → px_H → Prop), wp d 105 23 [l0, l1, some .null] [s0] w 0 Q ↔ wp d 105 24 [l0, l1, some .null] [.null, s0] w 0 Q) ∧
  (∀ (d : Nat) (l0 l1 l2 : Option Value) (s1 : Value)  (b : Nat) (w : px_H) (Q : Option Value → px_H → Prop), wp (d + 1) 105 24 [l0, l1, l2] [.ref b, s1] w 0 Q ↔ px_op (px_tgt w b [(0, 3), (1, 78), (3, 78), (8, 3), (9, 78)]) (fun v => wc d v [.ref b] w (fun r w' => wp (d + 1) 105 27 [l0, l1, l2] (r.toList ++ [s1]) w' 0 Q))) ∧
  (∀ (d : Nat) (l0 l1 l2 : Option Value) (x y : Int32) (w : px_H) (Q : Option Value → px_H → Prop), wp d 105 27 [l0, l1, l2] [.int y, .int x] w 0 Q ↔ wp d 105 28 [l0, l1, l2] [.int (x + y)] w 0 Q) ∧
  (∀ (d : Nat) (l0 l1 l2 : Option Value) (s0 : Value)  (w : px_H) (Q : Option Value → px_H → Prop), wp d 105 28 [l0, l1, l2] [s0] w 0 Q ↔ wp d 105 31 [l0, l1, l2] [.int 999, s0] w 0 Q) ∧
  (∀ (d : Nat) (l0 l1 l2 : Option Value) (x y : Int32) (w : px_H) (Q : Option Value → px_H → Prop), wp d 105 31 [l0, l1, l2] [.int y, .int x] w 0 Q ↔ if x ≤ y then wp d 105 37 [l0, l1, l2] [] w 0 Q else wp d 105 34 [l0, l1, l2] [] w 0 Q) ∧
  (∀ (d : Nat) (l0 l1 l2 : Option Value)  (w : px_H) (Q : Option Value → px_H → Prop), wp d 105 34 [l0, l1, l2] [] w 0 Q ↔ wp d 105 36 [l0, l1, l2] [.int (-1000003)] w 0 Q) ∧
  (∀ (d : Nat) (l0 l1 l2 : Option Value) (x : Int32) (w : px_H) (Q : Option Value → px_H → Prop), wp d 105 36 [l0, l1, l2] [.int x] w 0 Q ↔ Q (some (.int x)) w) ∧
  (∀ (d : Nat) (l1 l2 : Option Value) (a : Nat) (w : px_H) (Q : Option Value → px_H → Prop), wp d 105 37 [some (.ref a), l1, l2] [] w 0 Q ↔ wp d 105 38 [some (.ref a), l1, l2] [.ref a] w 0 Q) ∧
  (∀ (d : Nat) (l0 l1 l2 : Option Value) (a : Nat) (w : px_H) (Q : Option Value → px_H → Prop), wp d 105 38 [l0, l1, l2] [.ref a] w 0 Q ↔ px_op (px_fld w a [(10, 0)] 3) (fun v => wp d 105 41 [l0, l1, l2] [v] w 0 Q)) ∧
  (∀ (d : Nat) (l0 l1 : Option Value) (s0 : Value) (a : Nat) (w : px_H) (Q : Option Value → px_H → Prop), wp d 105 41 [l0, l1, some (.ref a)] [s0] w 0 Q ↔ wp d 105 42 [l0, l1, some (.ref a)] [.ref a, s0] w 0 Q) ∧
  (∀ (d : Nat) (l0 l1 : Option Value) (s0 : Value)  (w : px_H) (Q : Option Value → px_H → Prop), wp d 105 41 [l0, l1, some .null] [s0] w 0 Q ↔ wp d 105 42 [l0, l1, some .null] [.null, s0] w 0 Q) ∧
  (∀ (d : Nat) (l0 l1 l2 : Option Value) (v0 : Value) (b : Nat) (w : px_H) (Q : Option Value → px_H → Prop), wp (d + 1) 105 42 [l0, l1, l2] [v0, .ref b] w 0 Q ↔ px_op (px_tgt w b [(5, 51)]) (fun v => wc d v [.ref b, v0] w (fun r w' => wp (d + 1) 105 45 [l0, l1, l2] (r.toList ++ []) w' 0 Q))) ∧
  (∀ (d : Nat) (l1 l2 : Option Value) (a : Nat) (w : px_H) (Q : Option Value → px_H → Prop), wp d 105 45 [some (.ref a), l1, l2] [] w 0 Q ↔ wp d 105 46 [some (.ref a), l1, l2] [.ref a] w 0 Q) ∧
  (∀ (d : Nat) (l0 l1 l2 : Option Value) (a : Nat) (w : px_H) (Q : Option Value → px_H → Prop), wp d 105 46 [l0, l1, l2] [.ref a] w 0 Q ↔ px_op (px_fld w a [(10, 0)] 3) (fun v => wp d 105 49 [l0, l1, l2] [v] w 0 Q)) ∧
  (∀ (d : Nat) (l0 l1 l2 : Option Value) (a : Nat) (w : px_H) (Q : Option Value → px_H → Prop), wp d 105 49 [l0, l1, l2] [.ref a] w 0 Q ↔ px_op (px_fld w a [(5, 0)] 8) (fun v => wp d 105 52 [l0, l1, l2] [v] w 0 Q)) ∧
  (∀ (d : Nat) (l0 l1 l2 : Option Value) (x : Int32) (w : px_H) (Q : Option Value → px_H → Prop), wp d 105 52 [l0, l1, l2] [.int x] w 0 Q ↔ Q (some (.int x)) w) := ⟨fun d v0 v1 w Q => r_entry pt_105 (Nat.le_of_ble_eq_true rfl) rfl,
  fun d l1 l2 a w Q => px_go (q := (.aload_n 0, 1, px_x0)) (S' := (1, [some (.ref a), l1, l2], [.ref a], w, 0)) pt_105 rfl rfl,
  fun d l0 l1 l2 a w Q => px_goO (q := (.getfield 29, 3, (10, 3, [(10, 0)], 0, "AllSworn"))) (S' := fun v => (4, [l0, l1, l2], [v], w, 0)) pt_105 rfl rfl,
  fun d l0 l2 s0 x w Q => px_go (q := (.iload_n 1, 1, px_x0)) (S' := (5, [l0, some (.int x), l2], [.int x, s0], w, 0)) pt_105 rfl rfl,
  fun d l0 l1 l2 v0 b w Q => r_callV (q := (.invokevirtual 125, 3, (33, 1, [(5, 47)], 0, ""))) pt_105 rfl rfl (List.forall_mem_cons.mpr ⟨⟨_, pt_47, Nat.le_of_ble_eq_true rfl, (Nat.le_of_ble_eq_true rfl), rfl⟩, fun _ h => absurd h List.not_mem_nil⟩),
  fun d l0 l1 l2 a w Q => px_go (q := (.astore_n 2, 1, px_x0)) (S' := (9, [l0, l1, some (.ref a)], [], w, 0)) pt_105 rfl rfl,
  fun d l0 l1 l2 w Q => px_go (q := (.astore_n 2, 1, px_x0)) (S' := (9, [l0, l1, some .null], [], w, 0)) pt_105 rfl rfl,
  fun d l0 l1 a w Q => px_go (q := (.aload_n 2, 1, px_x0)) (S' := (10, [l0, l1, some (.ref a)], [.ref a], w, 0)) pt_105 rfl rfl,
  fun d l0 l1 w Q => px_go (q := (.aload_n 2, 1, px_x0)) (S' := (10, [l0, l1, some .null], [.null], w, 0)) pt_105 rfl rfl,
  fun d l0 l1 l2 a w Q => r_ifnonnull pt_105 rfl rfl,
  fun d l0 l1 l2 w Q => px_go (q := (.ifnonnull 6, 3, px_x0)) (S' := (13, [l0, l1, l2], [], w, 0)) pt_105 rfl rfl,
  fun d l0 l1 l2 w Q => px_go (q := (.ldc 62, 2, (0, 0, [], (-1000001), ""))) (S' := (15, [l0, l1, l2], [.int (-1000001)], w, 0)) pt_105 rfl rfl,
  fun d l0 l1 l2 x w Q => px_ret (q := (.ireturn, 1, px_x0)) pt_105 rfl rfl,
  fun d l1 l2 a w Q => px_go (q := (.aload_n 0, 1, px_x0)) (S' := (17, [some (.ref a), l1, l2], [.ref a], w, 0)) pt_105 rfl rfl,
  fun d l0 l1 l2 a w Q => px_goO (q := (.getfield 29, 3, (10, 3, [(10, 0)], 0, "AllSworn"))) (S' := fun v => (20, [l0, l1, l2], [v], w, 0)) pt_105 rfl rfl,
  fun d l0 l1 l2 a w Q => px_goO (q := (.getfield 129, 3, (11, 8, [(5, 0)], 0, "AllSworn$Realm"))) (S' := fun v => (23, [l0, l1, l2], [v], w, 0)) pt_105 rfl rfl,
  fun d l0 l1 s0 a w Q => px_go (q := (.aload_n 2, 1, px_x0)) (S' := (24, [l0, l1, some (.ref a)], [.ref a, s0], w, 0)) pt_105 rfl rfl,
  fun d l0 l1 s0 w Q => px_go (q := (.aload_n 2, 1, px_x0)) (S' := (24, [l0, l1, some .null], [.null, s0], w, 0)) pt_105 rfl rfl,
  fun d l0 l1 l2 s1 b w Q => r_callV (q := (.invokevirtual 132, 3, (34, 0, [(0, 3), (1, 78), (3, 78), (8, 3), (9, 78)], 0, "AllSworn$Thing"))) pt_105 rfl rfl (List.forall_mem_cons.mpr ⟨⟨_, pt_3, Nat.le_of_ble_eq_true rfl, (Nat.le_of_ble_eq_true rfl), rfl⟩, List.forall_mem_cons.mpr ⟨⟨_, pt_78, Nat.le_of_ble_eq_true rfl, (Nat.le_of_ble_eq_true rfl), rfl⟩, List.forall_mem_cons.mpr ⟨⟨_, pt_78, Nat.le_of_ble_eq_true rfl, (Nat.le_of_ble_eq_true rfl), rfl⟩, List.forall_mem_cons.mpr ⟨⟨_, pt_3, Nat.le_of_ble_eq_true rfl, (Nat.le_of_ble_eq_true rfl), rfl⟩, List.forall_mem_cons.mpr ⟨⟨_, pt_78, Nat.le_of_ble_eq_true rfl, (Nat.le_of_ble_eq_true rfl), rfl⟩, fun _ h => absurd h List.not_mem_nil⟩⟩⟩⟩⟩),
  fun d l0 l1 l2 x y w Q => px_go (q := (.iadd, 1, px_x0)) (S' := (28, [l0, l1, l2], [.int (x + y)], w, 0)) pt_105 rfl rfl,
  fun d l0 l1 l2 s0 w Q => r_sipush pt_105 rfl (by decide),
  fun d l0 l1 l2 x y w Q => r_icmp_le pt_105 rfl rfl,
  fun d l0 l1 l2 w Q => px_go (q := (.ldc 106, 2, (0, 0, [], (-1000003), ""))) (S' := (36, [l0, l1, l2], [.int (-1000003)], w, 0)) pt_105 rfl rfl,
  fun d l0 l1 l2 x w Q => px_ret (q := (.ireturn, 1, px_x0)) pt_105 rfl rfl,
  fun d l1 l2 a w Q => px_go (q := (.aload_n 0, 1, px_x0)) (S' := (38, [some (.ref a), l1, l2], [.ref a], w, 0)) pt_105 rfl rfl,
  fun d l0 l1 l2 a w Q => px_goO (q := (.getfield 29, 3, (10, 3, [(10, 0)], 0, "AllSworn"))) (S' := fun v => (41, [l0, l1, l2], [v], w, 0)) pt_105 rfl rfl,
  fun d l0 l1 s0 a w Q => px_go (q := (.aload_n 2, 1, px_x0)) (S' := (42, [l0, l1, some (.ref a)], [.ref a, s0], w, 0)) pt_105 rfl rfl,
  fun d l0 l1 s0 w Q => px_go (q := (.aload_n 2, 1, px_x0)) (S' := (42, [l0, l1, some .null], [.null, s0], w, 0)) pt_105 rfl rfl,
  fun d l0 l1 l2 v0 b w Q => r_callV (q := (.invokevirtual 138, 3, (33, 1, [(5, 51)], 0, ""))) pt_105 rfl rfl (List.forall_mem_cons.mpr ⟨⟨_, pt_51, Nat.le_of_ble_eq_true rfl, (Nat.le_of_ble_eq_true rfl), rfl⟩, fun _ h => absurd h List.not_mem_nil⟩),
  fun d l1 l2 a w Q => px_go (q := (.aload_n 0, 1, px_x0)) (S' := (46, [some (.ref a), l1, l2], [.ref a], w, 0)) pt_105 rfl rfl,
  fun d l0 l1 l2 a w Q => px_goO (q := (.getfield 29, 3, (10, 3, [(10, 0)], 0, "AllSworn"))) (S' := fun v => (49, [l0, l1, l2], [v], w, 0)) pt_105 rfl rfl,
  fun d l0 l1 l2 a w Q => px_goO (q := (.getfield 129, 3, (11, 8, [(5, 0)], 0, "AllSworn$Realm"))) (S' := fun v => (52, [l0, l1, l2], [v], w, 0)) pt_105 rfl rfl,
  fun d l0 l1 l2 x w Q => px_ret (q := (.ireturn, 1, px_x0)) pt_105 rfl rfl⟩
/-- AllSworn.tries(I)I -/
theorem S106 : (∀ (d : Nat) (v0 v1 : Value) (w : px_H) (Q : Option Value → px_H → Prop), wc d 106 [v0, v1] w Q ↔ wp d 106 0 [some v0, some v1] [] w 0 Q) ∧
  (∀ (d : Nat) (l1 : Option Value) (a : Nat) (w : px_H) (Q : Option Value → px_H → Prop), wp d 106 0 [some (.ref a), l1] [] w 0 Q ↔ wp d 106 1 [some (.ref a), l1] [.ref a] w 0 Q) ∧
  (∀ (d : Nat) (l0 l1 : Option Value) (a : Nat) (w : px_H) (Q : Option Value → px_H → Prop), wp d 106 1 [l0, l1] [.ref a] w 0 Q ↔ px_op (px_fld w a [(10, 0)] 3) (fun v => wp d 106 4 [l0, l1] [v] w 0 Q)) ∧
  (∀ (d : Nat) (l0 : Option Value) (s0 : Value) (x : Int32) (w : px_H) (Q : Option Value → px_H → Prop), wp d 106 4 [l0, some (.int x)] [s0] w 0 Q ↔ wp d 106 5 [l0, some (.int x)] [.int x, s0] w 0 Q) ∧
  (∀ (d : Nat) (l0 l1 : Option Value) (v0 : Value) (b : Nat) (w : px_H) (Q : Option Value → px_H → Prop), wp (d + 1) 106 5 [l0, l1] [v0, .ref b] w 0 Q ↔ px_op (px_tgt w b [(5, 49)]) (fun v => wc d v [.ref b, v0] w (fun r w' => wp (d + 1) 106 8 [l0, l1] (r.toList ++ []) w' 0 Q))) ∧
  (∀ (d : Nat) (l0 l1 : Option Value) (x : Int32) (w : px_H) (Q : Option Value → px_H → Prop), wp d 106 8 [l0, l1] [.int x] w 0 Q ↔ if x = 0 then wp d 106 11 [l0, l1] [] w 0 Q else wp d 106 14 [l0, l1] [] w 0 Q) ∧
  (∀ (d : Nat) (l0 l1 : Option Value)  (w : px_H) (Q : Option Value → px_H → Prop), wp d 106 11 [l0, l1] [] w 0 Q ↔ wp d 106 13 [l0, l1] [.int (-1000001)] w 0 Q) ∧
  (∀ (d : Nat) (l0 l1 : Option Value) (x : Int32) (w : px_H) (Q : Option Value → px_H → Prop), wp d 106 13 [l0, l1] [.int x] w 0 Q ↔ Q (some (.int x)) w) ∧
  (∀ (d : Nat) (l1 : Option Value) (a : Nat) (w : px_H) (Q : Option Value → px_H → Prop), wp d 106 14 [some (.ref a), l1] [] w 0 Q ↔ wp d 106 15 [some (.ref a), l1] [.ref a] w 0 Q) ∧
  (∀ (d : Nat) (l0 l1 : Option Value) (a : Nat) (w : px_H) (Q : Option Value → px_H → Prop), wp d 106 15 [l0, l1] [.ref a] w 0 Q ↔ px_op (px_fld w a [(10, 0)] 3) (fun v => wp d 106 18 [l0, l1] [v] w 0 Q)) ∧
  (∀ (d : Nat) (l0 : Option Value) (s0 : Value) (x : Int32) (w : px_H) (Q : Option Value → px_H → Prop), wp d 106 18 [l0, some (.int x)] [s0] w 0 Q ↔ wp d 106 19 [l0, some (.int x)] [.int x, s0] w 0 Q) ∧
  (∀ (d : Nat) (l0 l1 : Option Value) (v0 : Value) (b : Nat) (w : px_H) (Q : Option Value → px_H → Prop), wp (d + 1) 106 19 [l0, l1] [v0, .ref b] w 0 Q ↔ px_op (px_tgt w b [(5, 52)]) (fun v => wc d v [.ref b, v0] w (fun r w' => wp (d + 1) 106 22 [l0, l1] (r.toList ++ []) w' 0 Q))) ∧
  (∀ (d : Nat) (l0 l1 : Option Value) (x : Int32) (w : px_H) (Q : Option Value → px_H → Prop), wp d 106 22 [l0, l1] [.int x] w 0 Q ↔ if x = 0 then wp d 106 29 [l0, l1] [] w 0 Q else wp d 106 25 [l0, l1] [] w 0 Q) ∧
  (∀ (d : Nat) (l0 l1 : Option Value)  (w : px_H) (Q : Option Value → px_H → Prop), wp d 106 25 [l0, l1] [] w 0 Q ↔ wp d 106 26 [l0, l1] [.int 1] w 0 Q) ∧
  (∀ (d : Nat) (l0 l1 : Option Value) (s0 : Value)  (w : px_H) (Q : Option Value → px_H → Prop), wp d 106 26 [l0, l1] [s0] w 0 Q ↔ wp d 106 30 [l0, l1] [s0] w 0 Q) ∧
  (∀ (d : Nat) (l0 l1 : Option Value)  (w : px_H) (Q : Option Value → px_H → Prop), wp d 106 29 [l0, l1] [] w 0 Q ↔ wp d 106 30 [l0, l1] [.int 0] w 0 Q) ∧
  (∀ (d : Nat) (l0 l1 : Option Value) (x : Int32) (w : px_H) (Q : Option Value → px_H → Prop), wp d 106 30 [l0, l1] [.int x] w 0 Q ↔ Q (some (.int x)) w) := ⟨fun d v0 v1 w Q => r_entry pt_106 (Nat.le_of_ble_eq_true rfl) rfl,
  fun d l1 a w Q => px_go (q := (.aload_n 0, 1, px_x0)) (S' := (1, [some (.ref a), l1], [.ref a], w, 0)) pt_106 rfl rfl,
  fun d l0 l1 a w Q => px_goO (q := (.getfield 29, 3, (10, 3, [(10, 0)], 0, "AllSworn"))) (S' := fun v => (4, [l0, l1], [v], w, 0)) pt_106 rfl rfl,
  fun d l0 s0 x w Q => px_go (q := (.iload_n 1, 1, px_x0)) (S' := (5, [l0, some (.int x)], [.int x, s0], w, 0)) pt_106 rfl rfl,
  fun d l0 l1 v0 b w Q => r_callV (q := (.invokevirtual 142, 3, (33, 1, [(5, 49)], 0, ""))) pt_106 rfl rfl (List.forall_mem_cons.mpr ⟨⟨_, pt_49, Nat.le_of_ble_eq_true rfl, (Nat.le_of_ble_eq_true rfl), rfl⟩, fun _ h => absurd h List.not_mem_nil⟩),
  fun d l0 l1 x w Q => r_if_ne pt_106 rfl rfl,
  fun d l0 l1 w Q => px_go (q := (.ldc 62, 2, (0, 0, [], (-1000001), ""))) (S' := (13, [l0, l1], [.int (-1000001)], w, 0)) pt_106 rfl rfl,
  fun d l0 l1 x w Q => px_ret (q := (.ireturn, 1, px_x0)) pt_106 rfl rfl,
  fun d l1 a w Q => px_go (q := (.aload_n 0, 1, px_x0)) (S' := (15, [some (.ref a), l1], [.ref a], w, 0)) pt_106 rfl rfl,
  fun d l0 l1 a w Q => px_goO (q := (.getfield 29, 3, (10, 3, [(10, 0)], 0, "AllSworn"))) (S' := fun v => (18, [l0, l1], [v], w, 0)) pt_106 rfl rfl,
  fun d l0 s0 x w Q => px_go (q := (.iload_n 1, 1, px_x0)) (S' := (19, [l0, some (.int x)], [.int x, s0], w, 0)) pt_106 rfl rfl,
  fun d l0 l1 v0 b w Q => r_callV (q := (.invokevirtual 145, 3, (33, 1, [(5, 52)], 0, ""))) pt_106 rfl rfl (List.forall_mem_cons.mpr ⟨⟨_, pt_52, Nat.le_of_ble_eq_true rfl, (Nat.le_of_ble_eq_true rfl), rfl⟩, fun _ h => absurd h List.not_mem_nil⟩),
  fun d l0 l1 x w Q => r_if_eq pt_106 rfl rfl,
  fun d l0 l1 w Q => r_iconst pt_106 rfl (by decide),
  fun d l0 l1 s0 w Q => r_goto pt_106 rfl rfl,
  fun d l0 l1 w Q => r_iconst pt_106 rfl (by decide),
  fun d l0 l1 x w Q => px_ret (q := (.ireturn, 1, px_x0)) pt_106 rfl rfl⟩
/-- AllSworn.waits(I)I -/
theorem S107 : (∀ (d : Nat) (v0 v1 : Value) (w : px_H) (Q : Option Value → px_H → Prop), wc d 107 [v0, v1] w Q ↔ wp d 107 0 [some v0, some v1] [] w 0 Q) ∧
  (∀ (d : Nat) (l1 : Option Value) (a : Nat) (w : px_H) (Q : Option Value → px_H → Prop), wp d 107 0 [some (.ref a), l1] [] w 0 Q ↔ wp d 107 1 [some (.ref a), l1] [.ref a] w 0 Q) ∧
  (∀ (d : Nat) (l0 l1 : Option Value) (a : Nat) (w : px_H) (Q : Option Value → px_H → Prop), wp d 107 1 [l0, l1] [.ref a] w 0 Q ↔ px_op (px_fld w a [(10, 0)] 3) (fun v => wp d 107 4 [l0, l1] [v] w 0 Q)) ∧
  (∀ (d : Nat) (l0 l1 : Option Value)  (b : Nat) (w : px_H) (Q : Option Value → px_H → Prop), wp (d + 1) 107 4 [l0, l1] [.ref b] w 0 Q ↔ px_op (px_tgt w b [(5, 42)]) (fun v => wc d v [.ref b] w (fun r w' => wp (d + 1) 107 7 [l0, l1] (r.toList ++ []) w' 0 Q))) ∧
  (∀ (d : Nat) (l0 l1 : Option Value) (x : Int32) (w : px_H) (Q : Option Value → px_H → Prop), wp d 107 7 [l0, l1] [.int x] w 0 Q ↔ if x = 0 then wp d 107 10 [l0, l1] [] w 0 Q else wp d 107 13 [l0, l1] [] w 0 Q) ∧
  (∀ (d : Nat) (l0 l1 : Option Value)  (w : px_H) (Q : Option Value → px_H → Prop), wp d 107 10 [l0, l1] [] w 0 Q ↔ wp d 107 12 [l0, l1] [.int (-1000002)] w 0 Q) ∧
  (∀ (d : Nat) (l0 l1 : Option Value) (x : Int32) (w : px_H) (Q : Option Value → px_H → Prop), wp d 107 12 [l0, l1] [.int x] w 0 Q ↔ Q (some (.int x)) w) ∧
  (∀ (d : Nat) (l0 : Option Value) (x : Int32) (w : px_H) (Q : Option Value → px_H → Prop), wp d 107 13 [l0, some (.int x)] [] w 0 Q ↔ wp d 107 14 [l0, some (.int x)] [.int x] w 0 Q) ∧
  (∀ (d : Nat) (l0 l1 : Option Value) (s0 : Value)  (w : px_H) (Q : Option Value → px_H → Prop), wp d 107 14 [l0, l1] [s0] w 0 Q ↔ wp d 107 15 [l0, l1] [.int 1, s0] w 0 Q) ∧
  (∀ (d : Nat) (l0 l1 : Option Value) (x y : Int32) (w : px_H) (Q : Option Value → px_H → Prop), wp d 107 15 [l0, l1] [.int y, .int x] w 0 Q ↔ if x < y then wp d 107 24 [l0, l1] [] w 0 Q else wp d 107 18 [l0, l1] [] w 0 Q) ∧
  (∀ (d : Nat) (l0 : Option Value) (x : Int32) (w : px_H) (Q : Option Value → px_H → Prop), wp d 107 18 [l0, some (.int x)] [] w 0 Q ↔ wp d 107 19 [l0, some (.int x)] [.int x] w 0 Q) ∧
  (∀ (d : Nat) (l0 l1 : Option Value) (s0 : Value)  (w : px_H) (Q : Option Value → px_H → Prop), wp d 107 19 [l0, l1] [s0] w 0 Q ↔ wp d 107 21 [l0, l1] [.int 60, s0] w 0 Q) ∧
  (∀ (d : Nat) (l0 l1 : Option Value) (x y : Int32) (w : px_H) (Q : Option Value → px_H → Prop), wp d 107 21 [l0, l1] [.int y, .int x] w 0 Q ↔ if x ≤ y then wp d 107 27 [l0, l1] [] w 0 Q else wp d 107 24 [l0, l1] [] w 0 Q) ∧
  (∀ (d : Nat) (l0 l1 : Option Value)  (w : px_H) (Q : Option Value → px_H → Prop), wp d 107 24 [l0, l1] [] w 0 Q ↔ wp d 107 26 [l0, l1] [.int (-1000001)] w 0 Q) ∧
  (∀ (d : Nat) (l0 l1 : Option Value) (x : Int32) (w : px_H) (Q : Option Value → px_H → Prop), wp d 107 26 [l0, l1] [.int x] w 0 Q ↔ Q (some (.int x)) w) ∧
  (∀ (d : Nat) (l1 : Option Value) (a : Nat) (w : px_H) (Q : Option Value → px_H → Prop), wp d 107 27 [some (.ref a), l1] [] w 0 Q ↔ wp d 107 28 [some (.ref a), l1] [.ref a] w 0 Q) ∧
  (∀ (d : Nat) (l0 l1 : Option Value) (a : Nat) (w : px_H) (Q : Option Value → px_H → Prop), wp d 107 28 [l0, l1] [.ref a] w 0 Q ↔ px_op (px_fld w a [(10, 0)] 3) (fun v => wp d 107 31 [l0, l1] [v] w 0 Q)) ∧
  (∀ (d : Nat) (l0 l1 : Option Value) (a : Nat) (w : px_H) (Q : Option Value → px_H → Prop), wp d 107 31 [l0, l1] [.ref a] w 0 Q ↔ px_op (px_fld w a [(5, 0)] 8) (fun v => wp d 107 34 [l0, l1] [v] w 0 Q)) ∧
  (∀ (d : Nat) (l0 : Option Value) (s0 : Value) (x : Int32) (w : px_H) (Q : Option Value → px_H → Prop), wp d 107 34 [l0, some (.int x)] [s0] w 0 Q ↔ wp d 107 35 [l0, some (.int x)] [.int x, s0] w 0 Q) ∧
  (∀ (d : Nat) (l0 l1 : Option Value) (x y : Int32) (w : px_H) (Q : Option Value → px_H → Prop), wp d 107 35 [l0, l1] [.int y, .int x] w 0 Q ↔ wp d 107 36 [l0, l1] [.int (x + y)] w 0 Q) ∧
  (∀ (d : Nat) (l0 l1 : Option Value) (s0 : Value)  (w : px_H) (Q : Option Value → px_H → Prop), wp d 107 36 [l0, l1] [s0] w 0 Q ↔ wp d 107 39 [l0, l1] [.int 999, s0] w 0 Q) ∧
  (∀ (d : Nat) (l0 l1 : Option Value) (x y : Int32) (w : px_H) (Q : Option Value → px_H → Prop), wp d 107 39 [l0, l1] [.int y, .int x] w 0 Q ↔ if x ≤ y then wp d 107 45 [l0, l1] [] w 0 Q else wp d 107 42 [l0, l1] [] w 0 Q) ∧
  (∀ (d : Nat) (l0 l1 : Option Value)  (w : px_H) (Q : Option Value → px_H → Prop), wp d 107 42 [l0, l1] [] w 0 Q ↔ wp d 107 44 [l0, l1] [.int (-1000003)] w 0 Q) ∧
  (∀ (d : Nat) (l0 l1 : Option Value) (x : Int32) (w : px_H) (Q : Option Value → px_H → Prop), wp d 107 44 [l0, l1] [.int x] w 0 Q ↔ Q (some (.int x)) w) ∧
  (∀ (d : Nat) (l1 : Option Value) (a : Nat) (w : px_H) (Q : Option Value → px_H → Prop), wp d 107 45 [some (.ref a), l1] [] w 0 Q ↔ wp d 107 46 [some (.ref a), l1] [.ref a] w 0 Q) ∧
  (∀ (d : Nat) (l0 l1 : Option Value) (a : Nat) (w : px_H) (Q : Option Value → px_H → Prop), wp d 107 46 [l0, l1] [.ref a] w 0 Q ↔ px_op (px_fld w a [(10, 0)] 3) (fun v => wp d 107 49 [l0, l1] [v] w 0 Q)) ∧
  (∀ (d : Nat) (l0 : Option Value) (s0 : Value) (x : Int32) (w : px_H) (Q : Option Value → px_H → Prop), wp d 107 49 [l0, some (.int x)] [s0] w 0 Q ↔ wp d 107 50 [l0, some (.int x)] [.int x, s0] w 0 Q) ∧
  (∀ (d : Nat) (l0 l1 : Option Value) (v0 : Value) (b : Nat) (w : px_H) (Q : Option Value → px_H → Prop), wp (d + 1) 107 50 [l0, l1] [v0, .ref b] w 0 Q ↔ px_op (px_tgt w b [(5, 53)]) (fun v => wc d v [.ref b, v0] w (fun r w' => wp (d + 1) 107 53 [l0, l1] (r.toList ++ []) w' 0 Q))) ∧
  (∀ (d : Nat) (l1 : Option Value) (a : Nat) (w : px_H) (Q : Option Value → px_H → Prop), wp d 107 53 [some (.ref a), l1] [] w 0 Q ↔ wp d 107 54 [some (.ref a), l1] [.ref a] w 0 Q) ∧
  (∀ (d : Nat) (l0 l1 : Option Value) (a : Nat) (w : px_H) (Q : Option Value → px_H → Prop), wp d 107 54 [l0, l1] [.ref a] w 0 Q ↔ px_op (px_fld w a [(10, 0)] 3) (fun v => wp d 107 57 [l0, l1] [v] w 0 Q)) ∧
  (∀ (d : Nat) (l0 l1 : Option Value) (a : Nat) (w : px_H) (Q : Option Value → px_H → Prop), wp d 107 57 [l0, l1] [.ref a] w 0 Q ↔ px_op (px_fld w a [(5, 0)] 8) (fun v => wp d 107 60 [l0, l1] [v] w 0 Q)) ∧
  (∀ (d : Nat) (l0 l1 : Option Value) (x : Int32) (w : px_H) (Q : Option Value → px_H → Prop), wp d 107 60 [l0, l1] [.int x] w 0 Q ↔ Q (some (.int x)) w) := ⟨fun d v0 v1 w Q => r_entry pt_107 (Nat.le_of_ble_eq_true rfl) rfl,
  fun d l1 a w Q => px_go (q := (.aload_n 0, 1, px_x0)) (S' := (1, [some (.ref a), l1], [.ref a], w, 0)) pt_107 rfl rfl,
  fun d l0 l1 a w Q => px_goO (q := (.getfield 29, 3, (10, 3, [(10, 0)], 0, "AllSworn"))) (S' := fun v => (4, [l0, l1], [v], w, 0)) pt_107 rfl rfl,
  fun d l0 l1 b w Q => r_callV (q := (.invokevirtual 148, 3, (33, 0, [(5, 42)], 0, ""))) pt_107 rfl rfl (List.forall_mem_cons.mpr ⟨⟨_, pt_42, Nat.le_of_ble_eq_true rfl, (Nat.le_of_ble_eq_true rfl), rfl⟩, fun _ h => absurd h List.not_mem_nil⟩),
  fun d l0 l1 x w Q => r_if_ne pt_107 rfl rfl,
  fun d l0 l1 w Q => px_go (q := (.ldc 151, 2, (0, 0, [], (-1000002), ""))) (S' := (12, [l0, l1], [.int (-1000002)], w, 0)) pt_107 rfl rfl,
  fun d l0 l1 x w Q => px_ret (q := (.ireturn, 1, px_x0)) pt_107 rfl rfl,
  fun d l0 x w Q => px_go (q := (.iload_n 1, 1, px_x0)) (S' := (14, [l0, some (.int x)], [.int x], w, 0)) pt_107 rfl rfl,
  fun d l0 l1 s0 w Q => r_iconst pt_107 rfl (by decide),
  fun d l0 l1 x y w Q => r_icmp_lt pt_107 rfl rfl,
  fun d l0 x w Q => px_go (q := (.iload_n 1, 1, px_x0)) (S' := (19, [l0, some (.int x)], [.int x], w, 0)) pt_107 rfl rfl,
  fun d l0 l1 s0 w Q => r_bipush pt_107 rfl (by decide),
  fun d l0 l1 x y w Q => r_icmp_le pt_107 rfl rfl,
  fun d l0 l1 w Q => px_go (q := (.ldc 62, 2, (0, 0, [], (-1000001), ""))) (S' := (26, [l0, l1], [.int (-1000001)], w, 0)) pt_107 rfl rfl,
  fun d l0 l1 x w Q => px_ret (q := (.ireturn, 1, px_x0)) pt_107 rfl rfl,
  fun d l1 a w Q => px_go (q := (.aload_n 0, 1, px_x0)) (S' := (28, [some (.ref a), l1], [.ref a], w, 0)) pt_107 rfl rfl,
  fun d l0 l1 a w Q => px_goO (q := (.getfield 29, 3, (10, 3, [(10, 0)], 0, "AllSworn"))) (S' := fun v => (31, [l0, l1], [v], w, 0)) pt_107 rfl rfl,
  fun d l0 l1 a w Q => px_goO (q := (.getfield 129, 3, (11, 8, [(5, 0)], 0, "AllSworn$Realm"))) (S' := fun v => (34, [l0, l1], [v], w, 0)) pt_107 rfl rfl,
  fun d l0 s0 x w Q => px_go (q := (.iload_n 1, 1, px_x0)) (S' := (35, [l0, some (.int x)], [.int x, s0], w, 0)) pt_107 rfl rfl,
  fun d l0 l1 x y w Q => px_go (q := (.iadd, 1, px_x0)) (S' := (36, [l0, l1], [.int (x + y)], w, 0)) pt_107 rfl rfl,
  fun d l0 l1 s0 w Q => r_sipush pt_107 rfl (by decide),
  fun d l0 l1 x y w Q => r_icmp_le pt_107 rfl rfl,
  fun d l0 l1 w Q => px_go (q := (.ldc 106, 2, (0, 0, [], (-1000003), ""))) (S' := (44, [l0, l1], [.int (-1000003)], w, 0)) pt_107 rfl rfl,
  fun d l0 l1 x w Q => px_ret (q := (.ireturn, 1, px_x0)) pt_107 rfl rfl,
  fun d l1 a w Q => px_go (q := (.aload_n 0, 1, px_x0)) (S' := (46, [some (.ref a), l1], [.ref a], w, 0)) pt_107 rfl rfl,
  fun d l0 l1 a w Q => px_goO (q := (.getfield 29, 3, (10, 3, [(10, 0)], 0, "AllSworn"))) (S' := fun v => (49, [l0, l1], [v], w, 0)) pt_107 rfl rfl,
  fun d l0 s0 x w Q => px_go (q := (.iload_n 1, 1, px_x0)) (S' := (50, [l0, some (.int x)], [.int x, s0], w, 0)) pt_107 rfl rfl,
  fun d l0 l1 v0 b w Q => r_callV (q := (.invokevirtual 152, 3, (33, 1, [(5, 53)], 0, ""))) pt_107 rfl rfl (List.forall_mem_cons.mpr ⟨⟨_, pt_53, Nat.le_of_ble_eq_true rfl, (Nat.le_of_ble_eq_true rfl), rfl⟩, fun _ h => absurd h List.not_mem_nil⟩),
  fun d l1 a w Q => px_go (q := (.aload_n 0, 1, px_x0)) (S' := (54, [some (.ref a), l1], [.ref a], w, 0)) pt_107 rfl rfl,
  fun d l0 l1 a w Q => px_goO (q := (.getfield 29, 3, (10, 3, [(10, 0)], 0, "AllSworn"))) (S' := fun v => (57, [l0, l1], [v], w, 0)) pt_107 rfl rfl,
  fun d l0 l1 a w Q => px_goO (q := (.getfield 129, 3, (11, 8, [(5, 0)], 0, "AllSworn$Realm"))) (S' := fun v => (60, [l0, l1], [v], w, 0)) pt_107 rfl rfl,
  fun d l0 l1 x w Q => px_ret (q := (.ireturn, 1, px_x0)) pt_107 rfl rfl⟩
/-- AllSworn.undo()I -/
theorem S108 : (∀ (d : Nat) (v0 : Value) (w : px_H) (Q : Option Value → px_H → Prop), wc d 108 [v0] w Q ↔ wp d 108 0 [some v0] [] w 0 Q) ∧
  (∀ (d : Nat) (a : Nat) (w : px_H) (Q : Option Value → px_H → Prop), wp d 108 0 [some (.ref a)] [] w 0 Q ↔ wp d 108 1 [some (.ref a)] [.ref a] w 0 Q) ∧
  (∀ (d : Nat) (l0 : Option Value) (a : Nat) (w : px_H) (Q : Option Value → px_H → Prop), wp d 108 1 [l0] [.ref a] w 0 Q ↔ px_op (px_fld w a [(10, 0)] 3) (fun v => wp d 108 4 [l0] [v] w 0 Q)) ∧
  (∀ (d : Nat) (l0 : Option Value)  (b : Nat) (w : px_H) (Q : Option Value → px_H → Prop), wp (d + 1) 108 4 [l0] [.ref b] w 0 Q ↔ px_op (px_tgt w b [(5, 54)]) (fun v => wc d v [.ref b] w (fun r w' => wp (d + 1) 108 7 [l0] (r.toList ++ []) w' 0 Q))) ∧
  (∀ (d : Nat) (l0 : Option Value) (x : Int32) (w : px_H) (Q : Option Value → px_H → Prop), wp d 108 7 [l0] [.int x] w 0 Q ↔ if x = 0 then wp d 108 20 [l0] [] w 0 Q else wp d 108 10 [l0] [] w 0 Q) ∧
  (∀ (d : Nat) (a : Nat) (w : px_H) (Q : Option Value → px_H → Prop), wp d 108 10 [some (.ref a)] [] w 0 Q ↔ wp d 108 11 [some (.ref a)] [.ref a] w 0 Q) ∧
  (∀ (d : Nat) (l0 : Option Value) (a : Nat) (w : px_H) (Q : Option Value → px_H → Prop), wp d 108 11 [l0] [.ref a] w 0 Q ↔ px_op (px_fld w a [(10, 0)] 3) (fun v => wp d 108 14 [l0] [v] w 0 Q)) ∧
  (∀ (d : Nat) (l0 : Option Value) (a : Nat) (w : px_H) (Q : Option Value → px_H → Prop), wp d 108 14 [l0] [.ref a] w 0 Q ↔ px_op (px_fld w a [(5, 0)] 7) (fun v => wp d 108 17 [l0] [v] w 0 Q)) ∧
  (∀ (d : Nat) (l0 : Option Value) (s0 : Value)  (w : px_H) (Q : Option Value → px_H → Prop), wp d 108 17 [l0] [s0] w 0 Q ↔ wp d 108 22 [l0] [s0] w 0 Q) ∧
  (∀ (d : Nat) (l0 : Option Value)  (w : px_H) (Q : Option Value → px_H → Prop), wp d 108 20 [l0] [] w 0 Q ↔ wp d 108 22 [l0] [.int (-1000002)] w 0 Q) ∧
  (∀ (d : Nat) (l0 : Option Value) (x : Int32) (w : px_H) (Q : Option Value → px_H → Prop), wp d 108 22 [l0] [.int x] w 0 Q ↔ Q (some (.int x)) w) := ⟨fun d v0 w Q => r_entry pt_108 (Nat.le_of_ble_eq_true rfl) rfl,
  fun d a w Q => px_go (q := (.aload_n 0, 1, px_x0)) (S' := (1, [some (.ref a)], [.ref a], w, 0)) pt_108 rfl rfl,
  fun d l0 a w Q => px_goO (q := (.getfield 29, 3, (10, 3, [(10, 0)], 0, "AllSworn"))) (S' := fun v => (4, [l0], [v], w, 0)) pt_108 rfl rfl,
  fun d l0 b w Q => r_callV (q := (.invokevirtual 156, 3, (33, 0, [(5, 54)], 0, ""))) pt_108 rfl rfl (List.forall_mem_cons.mpr ⟨⟨_, pt_54, Nat.le_of_ble_eq_true rfl, (Nat.le_of_ble_eq_true rfl), rfl⟩, fun _ h => absurd h List.not_mem_nil⟩),
  fun d l0 x w Q => r_if_eq pt_108 rfl rfl,
  fun d a w Q => px_go (q := (.aload_n 0, 1, px_x0)) (S' := (11, [some (.ref a)], [.ref a], w, 0)) pt_108 rfl rfl,
  fun d l0 a w Q => px_goO (q := (.getfield 29, 3, (10, 3, [(10, 0)], 0, "AllSworn"))) (S' := fun v => (14, [l0], [v], w, 0)) pt_108 rfl rfl,
  fun d l0 a w Q => px_goO (q := (.getfield 159, 3, (11, 7, [(5, 0)], 0, "AllSworn$Realm"))) (S' := fun v => (17, [l0], [v], w, 0)) pt_108 rfl rfl,
  fun d l0 s0 w Q => r_goto pt_108 rfl rfl,
  fun d l0 w Q => px_go (q := (.ldc 151, 2, (0, 0, [], (-1000002), ""))) (S' := (22, [l0], [.int (-1000002)], w, 0)) pt_108 rfl rfl,
  fun d l0 x w Q => px_ret (q := (.ireturn, 1, px_x0)) pt_108 rfl rfl⟩
/-- AllSworn.thing(II)I -/
theorem S109 : (∀ (d : Nat) (v0 v1 v2 : Value) (w : px_H) (Q : Option Value → px_H → Prop), wc d 109 [v0, v1, v2] w Q ↔ wp d 109 0 [some v0, some v1, some v2, none] [] w 0 Q) ∧
  (∀ (d : Nat) (l1 l2 l3 : Option Value) (a : Nat) (w : px_H) (Q : Option Value → px_H → Prop), wp d 109 0 [some (.ref a), l1, l2, l3] [] w 0 Q ↔ wp d 109 1 [some (.ref a), l1, l2, l3] [.ref a] w 0 Q) ∧
  (∀ (d : Nat) (l0 l1 l2 l3 : Option Value) (a : Nat) (w : px_H) (Q : Option Value → px_H → Prop), wp d 109 1 [l0, l1, l2, l3] [.ref a] w 0 Q ↔ px_op (px_fld w a [(10, 0)] 3) (fun v => wp d 109 4 [l0, l1, l2, l3] [v] w 0 Q)) ∧
  (∀ (d : Nat) (l0 l2 l3 : Option Value) (s0 : Value) (x : Int32) (w : px_H) (Q : Option Value → px_H → Prop), wp d 109 4 [l0, some (.int x), l2, l3] [s0] w 0 Q ↔ wp d 109 5 [l0, some (.int x), l2, l3] [.int x, s0] w 0 Q) ∧
  (∀ (d : Nat) (l0 l1 l2 l3 : Option Value) (v0 : Value) (b : Nat) (w : px_H) (Q : Option Value → px_H → Prop), wp (d + 1) 109 5 [l0, l1, l2, l3] [v0, .ref b] w 0 Q ↔ px_op (px_tgt w b [(5, 47)]) (fun v => wc d v [.ref b, v0] w (fun r w' => wp (d + 1) 109 8 [l0, l1, l2, l3] (r.toList ++ []) w' 0 Q))) ∧
  (∀ (d : Nat) (l0 l1 l2 l3 : Option Value) (a : Nat) (w : px_H) (Q : Option Value → px_H → Prop), wp d 109 8 [l0, l1, l2, l3] [.ref a] w 0 Q ↔ wp d 109 9 [l0, l1, l2, some (.ref a)] [] w 0 Q) ∧
  (∀ (d : Nat) (l0 l1 l2 l3 : Option Value)  (w : px_H) (Q : Option Value → px_H → Prop), wp d 109 8 [l0, l1, l2, l3] [.null] w 0 Q ↔ wp d 109 9 [l0, l1, l2, some .null] [] w 0 Q) ∧
  (∀ (d : Nat) (l0 l1 l2 : Option Value) (a : Nat) (w : px_H) (Q : Option Value → px_H → Prop), wp d 109 9 [l0, l1, l2, some (.ref a)] [] w 0 Q ↔ wp d 109 10 [l0, l1, l2, some (.ref a)] [.ref a] w 0 Q) ∧
  (∀ (d : Nat) (l0 l1 l2 : Option Value)  (w : px_H) (Q : Option Value → px_H → Prop), wp d 109 9 [l0, l1, l2, some .null] [] w 0 Q ↔ wp d 109 10 [l0, l1, l2, some .null] [.null] w 0 Q) ∧
  (∀ (d : Nat) (l0 l1 l2 l3 : Option Value) (a : Nat) (w : px_H) (Q : Option Value → px_H → Prop), wp d 109 10 [l0, l1, l2, l3] [.ref a] w 0 Q ↔ wp d 109 16 [l0, l1, l2, l3] [] w 0 Q) ∧
  (∀ (d : Nat) (l0 l1 l2 l3 : Option Value)  (w : px_H) (Q : Option Value → px_H → Prop), wp d 109 10 [l0, l1, l2, l3] [.null] w 0 Q ↔ wp d 109 13 [l0, l1, l2, l3] [] w 0 Q) ∧
  (∀ (d : Nat) (l0 l1 l2 l3 : Option Value)  (w : px_H) (Q : Option Value → px_H → Prop), wp d 109 13 [l0, l1, l2, l3] [] w 0 Q ↔ wp d 109 15 [l0, l1, l2, l3] [.int (-1000001)] w 0 Q) ∧
  (∀ (d : Nat) (l0 l1 l2 l3 : Option Value) (x : Int32) (w : px_H) (Q : Option Value → px_H → Prop), wp d 109 15 [l0, l1, l2, l3] [.int x] w 0 Q ↔ Q (some (.int x)) w) ∧
  (∀ (d : Nat) (l0 l1 l3 : Option Value) (x : Int32) (w : px_H) (Q : Option Value → px_H → Prop), wp d 109 16 [l0, l1, some (.int x), l3] [] w 0 Q ↔ wp d 109 17 [l0, l1, some (.int x), l3] [.int x] w 0 Q) ∧
  (∀ (d : Nat) (l0 l1 l2 l3 : Option Value) (x : Int32) (w : px_H) (Q : Option Value → px_H → Prop), wp d 109 17 [l0, l1, l2, l3] [.int x] w 0 Q ↔ px_op (px_tsw 17 81 0 4 #[35, 40, 45, 54, 76] x) (fun t => wp d 109 t [l0, l1, l2, l3] [] w 0 Q)) ∧
  (∀ (d : Nat) (l0 l1 l2 : Option Value) (a : Nat) (w : px_H) (Q : Option Value → px_H → Prop), wp d 109 52 [l0, l1, l2, some (.ref a)] [] w 0 Q ↔ wp d 109 53 [l0, l1, l2, some (.ref a)] [.ref a] w 0 Q) ∧
  (∀ (d : Nat) (l0 l1 l2 : Option Value)  (w : px_H) (Q : Option Value → px_H → Prop), wp d 109 52 [l0, l1, l2, some .null] [] w 0 Q ↔ wp d 109 53 [l0, l1, l2, some .null] [.null] w 0 Q) ∧
  (∀ (d : Nat) (l0 l1 l2 l3 : Option Value) (a : Nat) (w : px_H) (Q : Option Value → px_H → Prop), wp d 109 53 [l0, l1, l2, l3] [.ref a] w 0 Q ↔ px_op (px_fld w a [(0, 0), (1, 0), (3, 0), (8, 0), (9, 0)] 1) (fun v => wp d 109 56 [l0, l1, l2, l3] [v] w 0 Q)) ∧
  (∀ (d : Nat) (l0 l1 l2 l3 : Option Value) (x : Int32) (w : px_H) (Q : Option Value → px_H → Prop), wp d 109 56 [l0, l1, l2, l3] [.int x] w 0 Q ↔ Q (some (.int x)) w) ∧
  (∀ (d : Nat) (l0 l1 l2 : Option Value) (a : Nat) (w : px_H) (Q : Option Value → px_H → Prop), wp d 109 57 [l0, l1, l2, some (.ref a)] [] w 0 Q ↔ wp d 109 58 [l0, l1, l2, some (.ref a)] [.ref a] w 0 Q) ∧
  (∀ (d : Nat) (l0 l1 l2 : Option Value)  (w : px_H) (Q : Option Value → px_H → Prop), wp d 109 57 [l0, l1, l2, some .null] [] w 0 Q ↔ wp d 109 58 [l0, l1, l2, some .null] [.null] w 0 Q) ∧
  (∀ (d : Nat) (l0 l1 l2 l3 : Option Value) (a : Nat) (w : px_H) (Q : Option Value → px_H → Prop), wp d 109 58 [l0, l1, l2, l3] [.ref a] w 0 Q ↔ px_op (px_fld w a [(0, 0), (1, 0), (3, 0), (8, 0), (9, 0)] 2) (fun v => wp d 109 61 [l0, l1, l2, l3] [v] w 0 Q)) ∧
  (∀ (d : Nat) (l0 l1 l2 l3 : Option Value) (x : Int32) (w : px_H) (Q : Option Value → px_H → Prop), wp d 109 61 [l0, l1, l2, l3] [.int x] w 0 Q ↔ Q (some (.int x)) w) ∧
  (∀ (d : Nat) (l1 l2 l3 : Option Value) (a : Nat) (w : px_H) (Q : Option Value → px_H → Prop), wp d 109 62 [some (.ref a), l1, l2, l3] [] w 0 Q ↔ wp d 109 63 [some (.ref a), l1, l2, l3] [.ref a] w 0 Q) ∧
  (∀ (d : Nat) (l0 l1 l2 l3 : Option Value) (a : Nat) (w : px_H) (Q : Option Value → px_H → Prop), wp d 109 63 [l0, l1, l2, l3] [.ref a] w 0 Q ↔ px_op (px_fld w a [(10, 0)] 3) (fun v => wp d 109 66 [l0, l1, l2, l3] [v] w 0 Q)) ∧
  (∀ (d : Nat) (l0 l2 l3 : Option Value) (s0 : Value) (x : Int32) (w : px_H) (Q : Option Value → px_H → Prop), wp d 109 66 [l0, some (.int x), l2, l3] [s0] w 0 Q ↔ wp d 109 67 [l0, some (.int x), l2, l3] [.int x, s0] w 0 Q) ∧
  (∀ (d : Nat) (l0 l1 l2 l3 : Option Value) (v0 : Value) (b : Nat) (w : px_H) (Q : Option Value → px_H → Prop), wp (d + 1) 109 67 [l0, l1, l2, l3] [v0, .ref b] w 0 Q ↔ px_op (px_tgt w b [(5, 48)]) (fun v => wc d v [.ref b, v0] w (fun r w' => wp (d + 1) 109 70 [l0, l1, l2, l3] (r.toList ++ []) w' 0 Q))) ∧
  (∀ (d : Nat) (l0 l1 l2 l3 : Option Value) (x : Int32) (w : px_H) (Q : Option Value → px_H → Prop), wp d 109 70 [l0, l1, l2, l3] [.int x] w 0 Q ↔ Q (some (.int x)) w) ∧
  (∀ (d : Nat) (l1 l2 l3 : Option Value) (a : Nat) (w : px_H) (Q : Option Value → px_H → Prop), wp d 109 71 [some (.ref a), l1, l2, l3] [] w 0 Q ↔ wp d 109 72 [some (.ref a), l1, l2, l3] [.ref a] w 0 Q) ∧
  (∀ (d : Nat) (l0 l1 l2 l3 : Option Value) (a : Nat) (w : px_H) (Q : Option Value → px_H → Prop), wp d 109 72 [l0, l1, l2, l3] [.ref a] w 0 Q ↔ px_op (px_fld w a [(10, 0)] 3) (fun v => wp d 109 75 [l0, l1, l2, l3] [v] w 0 Q)) ∧
  (∀ (d : Nat) (l1 l2 l3 : Option Value) (s0 : Value) (a : Nat) (w : px_H) (Q : Option Value → px_H → Prop), wp d 109 75 [some (.ref a), l1, l2, l3] [s0] w 0 Q ↔ wp d 109 76 [some (.ref a), l1, l2, l3] [.ref a, s0] w 0 Q) ∧
  (∀ (d : Nat) (l0 l1 l2 l3 : Option Value) (s1 : Value) (a : Nat) (w : px_H) (Q : Option Value → px_H → Prop), wp d 109 76 [l0, l1, l2, l3] [.ref a, s1] w 0 Q ↔ px_op (px_fld w a [(10, 0)] 3) (fun v => wp d 109 79 [l0, l1, l2, l3] [v, s1] w 0 Q)) ∧
  (∀ (d : Nat) (l0 l1 l2 l3 : Option Value) (s1 : Value) (a : Nat) (w : px_H) (Q : Option Value → px_H → Prop), wp d 109 79 [l0, l1, l2, l3] [.ref a, s1] w 0 Q ↔ px_op (px_fld w a [(5, 0)] 8) (fun v => wp d 109 82 [l0, l1, l2, l3] [v, s1] w 0 Q)) ∧
  (∀ (d : Nat) (l0 l1 l2 l3 : Option Value) (v0 : Value) (b : Nat) (w : px_H) (Q : Option Value → px_H → Prop), wp (d + 1) 109 82 [l0, l1, l2, l3] [v0, .ref b] w 0 Q ↔ px_op (px_tgt w b [(5, 57)]) (fun v => wc d v [.ref b, v0] w (fun r w' => wp (d + 1) 109 85 [l0, l1, l2, l3] (r.toList ++ []) w' 0 Q))) ∧
  (∀ (d : Nat) (l0 l1 l2 : Option Value) (s0 : Value) (a : Nat) (w : px_H) (Q : Option Value → px_H → Prop), wp d 109 85 [l0, l1, l2, some (.ref a)] [s0] w 0 Q ↔ wp d 109 86 [l0, l1, l2, some (.ref a)] [.ref a, s0] w 0 Q) ∧
  (∀ (d : Nat) (l0 l1 l2 : Option Value) (s0 : Value)  (w : px_H) (Q : Option Value → px_H → Prop), wp d 109 85 [l0, l1, l2, some .null] [s0] w 0 Q ↔ wp d 109 86 [l0, l1, l2, some .null] [.null, s0] w 0 Q) ∧
  (∀ (d : Nat) (l0 l1 l2 l3 : Option Value) (s1 : Value) (a : Nat) (w : px_H) (Q : Option Value → px_H → Prop), wp d 109 86 [l0, l1, l2, l3] [.ref a, s1] w 0 Q ↔ px_op (px_fld w a [(0, 0), (1, 0), (3, 0), (8, 0), (9, 0)] 0) (fun v => wp d 109 89 [l0, l1, l2, l3] [v, s1] w 0 Q)) ∧
  (∀ (d : Nat) (l0 l1 l2 l3 : Option Value) (x y : Int32) (w : px_H) (Q : Option Value → px_H → Prop), wp d 109 89 [l0, l1, l2, l3] [.int y, .int x] w 0 Q ↔ wp d 109 90 [l0, l1, l2, l3] [.int (x >>> (y &&& 31))] w 0 Q) ∧
  (∀ (d : Nat) (l0 l1 l2 l3 : Option Value) (s0 : Value)  (w : px_H) (Q : Option Value → px_H → Prop), wp d 109 90 [l0, l1, l2, l3] [s0] w 0 Q ↔ wp d 109 91 [l0, l1, l2, l3] [.int 1, s0] w 0 Q) ∧
  (∀ (d : Nat) (l0 l1 l2 l3 : Option Value) (x y : Int32) (w : px_H) (Q : Option Value → px_H → Prop), wp d 109 91 [l0, l1, l2, l3] [.int y, .int x] w 0 Q ↔ wp d 109 92 [l0, l1, l2, l3] [.int (x &&& y)] w 0 Q) ∧
  (∀ (d : Nat) (l0 l1 l2 l3 : Option Value) (x : Int32) (w : px_H) (Q : Option Value → px_H → Prop), wp d 109 92 [l0, l1, l2, l3] [.int x] w 0 Q ↔ Q (some (.int x)) w) ∧
  (∀ (d : Nat) (l0 l1 l2 : Option Value) (a : Nat) (w : px_H) (Q : Option Value → px_H → Prop), wp d 109 93 [l0, l1, l2, some (.ref a)] [] w 0 Q ↔ wp d 109 94 [l0, l1, l2, some (.ref a)] [.ref a] w 0 Q) ∧
  (∀ (d : Nat) (l0 l1 l2 : Option Value)  (w : px_H) (Q : Option Value → px_H → Prop), wp d 109 93 [l0, l1, l2, some .null] [] w 0 Q ↔ wp d 109 94 [l0, l1, l2, some .null] [.null] w 0 Q) ∧
  (∀ (d : Nat) (l0 l1 l2 l3 : Option Value)  (b : Nat) (w : px_H) (Q : Option Value → px_H → Prop), wp (d + 1) 109 94 [l0, l1, l2, l3] [.ref b] w 0 Q ↔ px_op (px_tgt w b [(0, 3), (1, 78), (3, 78), (8, 3), (9, 78)]) (fun v => wc d v [.ref b] w (fun r w' => wp (d + 1) 109 97 [l0, l1, l2, l3] (r.toList ++ []) w' 0 Q))) ∧
  (∀ (d : Nat) (l0 l1 l2 l3 : Option Value) (x : Int32) (w : px_H) (Q : Option Value → px_H → Prop), wp d 109 97 [l0, l1, l2, l3] [.int x] w 0 Q ↔ Q (some (.int x)) w) ∧
  (∀ (d : Nat) (l0 l1 l2 l3 : Option Value)  (w : px_H) (Q : Option Value → px_H → Prop), wp d 109 98 [l0, l1, l2, l3] [] w 0 Q ↔ wp d 109 100 [l0, l1, l2, l3] [.int (-1000001)] w 0 Q) ∧
  (∀ (d : Nat) (l0 l1 l2 l3 : Option Value) (x : Int32) (w : px_H) (Q : Option Value → px_H → Prop), wp d 109 100 [l0, l1, l2, l3] [.int x] w 0 Q ↔ Q (some (.int x)) w) := ⟨fun d v0 v1 v2 w Q => r_entry pt_109 (Nat.le_of_ble_eq_true rfl) rfl,
  fun d l1 l2 l3 a w Q => px_go (q := (.aload_n 0, 1, px_x0)) (S' := (1, [some (.ref a), l1, l2, l3], [.ref a], w, 0)) pt_109 rfl rfl,
  fun d l0 l1 l2 l3 a w Q => px_goO (q := (.getfield 29, 3, (10, 3, [(10, 0)], 0, "AllSworn"))) (S' := fun v => (4, [l0, l1, l2, l3], [v], w, 0)) pt_109 rfl rfl,
  fun d l0 l2 l3 s0 x w Q => px_go (q := (.iload_n 1, 1, px_x0)) (S' := (5, [l0, some (.int x), l2, l3], [.int x, s0], w, 0)) pt_109 rfl rfl,
  fun d l0 l1 l2 l3 v0 b w Q => r_callV (q := (.invokevirtual 125, 3, (33, 1, [(5, 47)], 0, ""))) pt_109 rfl rfl (List.forall_mem_cons.mpr ⟨⟨_, pt_47, Nat.le_of_ble_eq_true rfl, (Nat.le_of_ble_eq_true rfl), rfl⟩, fun _ h => absurd h List.not_mem_nil⟩),
  fun d l0 l1 l2 l3 a w Q => px_go (q := (.astore_n 3, 1, px_x0)) (S' := (9, [l0, l1, l2, some (.ref a)], [], w, 0)) pt_109 rfl rfl,
  fun d l0 l1 l2 l3 w Q => px_go (q := (.astore_n 3, 1, px_x0)) (S' := (9, [l0, l1, l2, some .null], [], w, 0)) pt_109 rfl rfl,
  fun d l0 l1 l2 a w Q => px_go (q := (.aload_n 3, 1, px_x0)) (S' := (10, [l0, l1, l2, some (.ref a)], [.ref a], w, 0)) pt_109 rfl rfl,
  fun d l0 l1 l2 w Q => px_go (q := (.aload_n 3, 1, px_x0)) (S' := (10, [l0, l1, l2, some .null], [.null], w, 0)) pt_109 rfl rfl,
  fun d l0 l1 l2 l3 a w Q => r_ifnonnull pt_109 rfl rfl,
  fun d l0 l1 l2 l3 w Q => px_go (q := (.ifnonnull 6, 3, px_x0)) (S' := (13, [l0, l1, l2, l3], [], w, 0)) pt_109 rfl rfl,
  fun d l0 l1 l2 l3 w Q => px_go (q := (.ldc 62, 2, (0, 0, [], (-1000001), ""))) (S' := (15, [l0, l1, l2, l3], [.int (-1000001)], w, 0)) pt_109 rfl rfl,
  fun d l0 l1 l2 l3 x w Q => px_ret (q := (.ireturn, 1, px_x0)) pt_109 rfl rfl,
  fun d l0 l1 l3 x w Q => px_go (q := (.iload_n 2, 1, px_x0)) (S' := (17, [l0, l1, some (.int x), l3], [.int x], w, 0)) pt_109 rfl rfl,
  fun d l0 l1 l2 l3 x w Q => r_tsw pt_109 rfl,
  fun d l0 l1 l2 a w Q => px_go (q := (.aload_n 3, 1, px_x0)) (S' := (53, [l0, l1, l2, some (.ref a)], [.ref a], w, 0)) pt_109 rfl rfl,
  fun d l0 l1 l2 w Q => px_go (q := (.aload_n 3, 1, px_x0)) (S' := (53, [l0, l1, l2, some .null], [.null], w, 0)) pt_109 rfl rfl,
  fun d l0 l1 l2 l3 a w Q => px_goO (q := (.getfield 162, 3, (10, 1, [(0, 0), (1, 0), (3, 0), (8, 0), (9, 0)], 0, "AllSworn$Thing"))) (S' := fun v => (56, [l0, l1, l2, l3], [v], w, 0)) pt_109 rfl rfl,
  fun d l0 l1 l2 l3 x w Q => px_ret (q := (.ireturn, 1, px_x0)) pt_109 rfl rfl,
  fun d l0 l1 l2 a w Q => px_go (q := (.aload_n 3, 1, px_x0)) (S' := (58, [l0, l1, l2, some (.ref a)], [.ref a], w, 0)) pt_109 rfl rfl,
  fun d l0 l1 l2 w Q => px_go (q := (.aload_n 3, 1, px_x0)) (S' := (58, [l0, l1, l2, some .null], [.null], w, 0)) pt_109 rfl rfl,
  fun d l0 l1 l2 l3 a w Q => px_goO (q := (.getfield 165, 3, (10, 2, [(0, 0), (1, 0), (3, 0), (8, 0), (9, 0)], 0, "AllSworn$Thing"))) (S' := fun v => (61, [l0, l1, l2, l3], [v], w, 0)) pt_109 rfl rfl,
  fun d l0 l1 l2 l3 x w Q => px_ret (q := (.ireturn, 1, px_x0)) pt_109 rfl rfl,
  fun d l1 l2 l3 a w Q => px_go (q := (.aload_n 0, 1, px_x0)) (S' := (63, [some (.ref a), l1, l2, l3], [.ref a], w, 0)) pt_109 rfl rfl,
  fun d l0 l1 l2 l3 a w Q => px_goO (q := (.getfield 29, 3, (10, 3, [(10, 0)], 0, "AllSworn"))) (S' := fun v => (66, [l0, l1, l2, l3], [v], w, 0)) pt_109 rfl rfl,
  fun d l0 l2 l3 s0 x w Q => px_go (q := (.iload_n 1, 1, px_x0)) (S' := (67, [l0, some (.int x), l2, l3], [.int x, s0], w, 0)) pt_109 rfl rfl,
  fun d l0 l1 l2 l3 v0 b w Q => r_callV (q := (.invokevirtual 168, 3, (33, 1, [(5, 48)], 0, ""))) pt_109 rfl rfl (List.forall_mem_cons.mpr ⟨⟨_, pt_48, Nat.le_of_ble_eq_true rfl, (Nat.le_of_ble_eq_true rfl), rfl⟩, fun _ h => absurd h List.not_mem_nil⟩),
  fun d l0 l1 l2 l3 x w Q => px_ret (q := (.ireturn, 1, px_x0)) pt_109 rfl rfl,
  fun d l1 l2 l3 a w Q => px_go (q := (.aload_n 0, 1, px_x0)) (S' := (72, [some (.ref a), l1, l2, l3], [.ref a], w, 0)) pt_109 rfl rfl,
  fun d l0 l1 l2 l3 a w Q => px_goO (q := (.getfield 29, 3, (10, 3, [(10, 0)], 0, "AllSworn"))) (S' := fun v => (75, [l0, l1, l2, l3], [v], w, 0)) pt_109 rfl rfl,
  fun d l1 l2 l3 s0 a w Q => px_go (q := (.aload_n 0, 1, px_x0)) (S' := (76, [some (.ref a), l1, l2, l3], [.ref a, s0], w, 0)) pt_109 rfl rfl,
  fun d l0 l1 l2 l3 s1 a w Q => px_goO (q := (.getfield 29, 3, (10, 3, [(10, 0)], 0, "AllSworn"))) (S' := fun v => (79, [l0, l1, l2, l3], [v, s1], w, 0)) pt_109 rfl rfl,
  fun d l0 l1 l2 l3 s1 a w Q => px_goO (q := (.getfield 129, 3, (11, 8, [(5, 0)], 0, "AllSworn$Realm"))) (S' := fun v => (82, [l0, l1, l2, l3], [v, s1], w, 0)) pt_109 rfl rfl,
  fun d l0 l1 l2 l3 v0 b w Q => r_callV (q := (.invokevirtual 171, 3, (33, 1, [(5, 57)], 0, ""))) pt_109 rfl rfl (List.forall_mem_cons.mpr ⟨⟨_, pt_57, Nat.le_of_ble_eq_true rfl, (Nat.le_of_ble_eq_true rfl), rfl⟩, fun _ h => absurd h List.not_mem_nil⟩),
  fun d l0 l1 l2 s0 a w Q => px_go (q := (.aload_n 3, 1, px_x0)) (S' := (86, [l0, l1, l2, some (.ref a)], [.ref a, s0], w, 0)) pt_109 rfl rfl,
  fun d l0 l1 l2 s0 w Q => px_go (q := (.aload_n 3, 1, px_x0)) (S' := (86, [l0, l1, l2, some .null], [.null, s0], w, 0)) pt_109 rfl rfl,
  fun d l0 l1 l2 l3 s1 a w Q => px_goO (q := (.getfield 174, 3, (10, 0, [(0, 0), (1, 0), (3, 0), (8, 0), (9, 0)], 0, "AllSworn$Thing"))) (S' := fun v => (89, [l0, l1, l2, l3], [v, s1], w, 0)) pt_109 rfl rfl,
  fun d l0 l1 l2 l3 x y w Q => px_go (q := (.ishr, 1, px_x0)) (S' := (90, [l0, l1, l2, l3], [.int (x >>> (y &&& 31))], w, 0)) pt_109 rfl rfl,
  fun d l0 l1 l2 l3 s0 w Q => r_iconst pt_109 rfl (by decide),
  fun d l0 l1 l2 l3 x y w Q => px_go (q := (.iand, 1, px_x0)) (S' := (92, [l0, l1, l2, l3], [.int (x &&& y)], w, 0)) pt_109 rfl rfl,
  fun d l0 l1 l2 l3 x w Q => px_ret (q := (.ireturn, 1, px_x0)) pt_109 rfl rfl,
  fun d l0 l1 l2 a w Q => px_go (q := (.aload_n 3, 1, px_x0)) (S' := (94, [l0, l1, l2, some (.ref a)], [.ref a], w, 0)) pt_109 rfl rfl,
  fun d l0 l1 l2 w Q => px_go (q := (.aload_n 3, 1, px_x0)) (S' := (94, [l0, l1, l2, some .null], [.null], w, 0)) pt_109 rfl rfl,
  fun d l0 l1 l2 l3 b w Q => r_callV (q := (.invokevirtual 132, 3, (34, 0, [(0, 3), (1, 78), (3, 78), (8, 3), (9, 78)], 0, "AllSworn$Thing"))) pt_109 rfl rfl (List.forall_mem_cons.mpr ⟨⟨_, pt_3, Nat.le_of_ble_eq_true rfl, (Nat.le_of_ble_eq_true rfl), rfl⟩, List.forall_mem_cons.mpr ⟨⟨_, pt_78, Nat.le_of_ble_eq_true rfl, (Nat.le_of_ble_eq_true rfl), rfl⟩, List.forall_mem_cons.mpr ⟨⟨_, pt_78, Nat.le_of_ble_eq_true rfl, (Nat.le_of_ble_eq_true rfl), rfl⟩, List.forall_mem_cons.mpr ⟨⟨_, pt_3, Nat.le_of_ble_eq_true rfl, (Nat.le_of_ble_eq_true rfl), rfl⟩, List.forall_mem_cons.mpr ⟨⟨_, pt_78, Nat.le_of_ble_eq_true rfl, (Nat.le_of_ble_eq_true rfl), rfl⟩, fun _ h => absurd h List.not_mem_nil⟩⟩⟩⟩⟩),
  fun d l0 l1 l2 l3 x w Q => px_ret (q := (.ireturn, 1, px_x0)) pt_109 rfl rfl,
  fun d l0 l1 l2 l3 w Q => px_go (q := (.ldc 62, 2, (0, 0, [], (-1000001), ""))) (S' := (100, [l0, l1, l2, l3], [.int (-1000001)], w, 0)) pt_109 rfl rfl,
  fun d l0 l1 l2 l3 x w Q => px_ret (q := (.ireturn, 1, px_x0)) pt_109 rfl rfl⟩
/-- AllSworn.harm(II)I -/
theorem S110 : (∀ (d : Nat) (v0 v1 v2 : Value) (w : px_H) (Q : Option Value → px_H → Prop), wc d 110 [v0, v1, v2] w Q ↔ wp d 110 0 [some v0, some v1, some v2, none] [] w 0 Q) ∧
  (∀ (d : Nat) (l1 l2 l3 : Option Value) (a : Nat) (w : px_H) (Q : Option Value → px_H → Prop), wp d 110 0 [some (.ref a), l1, l2, l3] [] w 0 Q ↔ wp d 110 1 [some (.ref a), l1, l2, l3] [.ref a] w 0 Q) ∧
  (∀ (d : Nat) (l0 l1 l2 l3 : Option Value) (a : Nat) (w : px_H) (Q : Option Value → px_H → Prop), wp d 110 1 [l0, l1, l2, l3] [.ref a] w 0 Q ↔ px_op (px_fld w a [(10, 0)] 3) (fun v => wp d 110 4 [l0, l1, l2, l3] [v] w 0 Q)) ∧
  (∀ (d : Nat) (l0 l2 l3 : Option Value) (s0 : Value) (x : Int32) (w : px_H) (Q : Option Value → px_H → Prop), wp d 110 4 [l0, some (.int x), l2, l3] [s0] w 0 Q ↔ wp d 110 5 [l0, some (.int x), l2, l3] [.int x, s0] w 0 Q) ∧
  (∀ (d : Nat) (l0 l1 l2 l3 : Option Value) (v0 : Value) (b : Nat) (w : px_H) (Q : Option Value → px_H → Prop), wp (d + 1) 110 5 [l0, l1, l2, l3] [v0, .ref b] w 0 Q ↔ px_op (px_tgt w b [(5, 49)]) (fun v => wc d v [.ref b, v0] w (fun r w' => wp (d + 1) 110 8 [l0, l1, l2, l3] (r.toList ++ []) w' 0 Q))) ∧
  (∀ (d : Nat) (l0 l1 l2 l3 : Option Value) (x : Int32) (w : px_H) (Q : Option Value → px_H → Prop), wp d 110 8 [l0, l1, l2, l3] [.int x] w 0 Q ↔ if x = 0 then wp d 110 11 [l0, l1, l2, l3] [] w 0 Q else wp d 110 14 [l0, l1, l2, l3] [] w 0 Q) ∧
  (∀ (d : Nat) (l0 l1 l2 l3 : Option Value)  (w : px_H) (Q : Option Value → px_H → Prop), wp d 110 11 [l0, l1, l2, l3] [] w 0 Q ↔ wp d 110 13 [l0, l1, l2, l3] [.int (-1000001)] w 0 Q) ∧
  (∀ (d : Nat) (l0 l1 l2 l3 : Option Value) (x : Int32) (w : px_H) (Q : Option Value → px_H → Prop), wp d 110 13 [l0, l1, l2, l3] [.int x] w 0 Q ↔ Q (some (.int x)) w) ∧
  (∀ (d : Nat) (l1 l2 l3 : Option Value) (a : Nat) (w : px_H) (Q : Option Value → px_H → Prop), wp d 110 14 [some (.ref a), l1, l2, l3] [] w 0 Q ↔ wp d 110 15 [some (.ref a), l1, l2, l3] [.ref a] w 0 Q) ∧
  (∀ (d : Nat) (l0 l1 l2 l3 : Option Value) (a : Nat) (w : px_H) (Q : Option Value → px_H → Prop), wp d 110 15 [l0, l1, l2, l3] [.ref a] w 0 Q ↔ px_op (px_fld w a [(10, 0)] 3) (fun v => wp d 110 18 [l0, l1, l2, l3] [v] w 0 Q)) ∧
  (∀ (d : Nat) (l0 l2 l3 : Option Value) (s0 : Value) (x : Int32) (w : px_H) (Q : Option Value → px_H → Prop), wp d 110 18 [l0, some (.int x), l2, l3] [s0] w 0 Q ↔ wp d 110 19 [l0, some (.int x), l2, l3] [.int x, s0] w 0 Q) ∧
  (∀ (d : Nat) (l0 l1 l2 l3 : Option Value) (v0 : Value) (b : Nat) (w : px_H) (Q : Option Value → px_H → Prop), wp (d + 1) 110 19 [l0, l1, l2, l3] [v0, .ref b] w 0 Q ↔ px_op (px_tgt w b [(5, 50)]) (fun v => wc d v [.ref b, v0] w (fun r w' => wp (d + 1) 110 22 [l0, l1, l2, l3] (r.toList ++ []) w' 0 Q))) ∧
  (∀ (d : Nat) (l0 l1 l2 l3 : Option Value) (x : Int32) (w : px_H) (Q : Option Value → px_H → Prop), wp d 110 22 [l0, l1, l2, l3] [.int x] w 0 Q ↔ wp d 110 23 [l0, l1, l2, some (.int x)] [] w 0 Q) ∧
  (∀ (d : Nat) (l0 l1 l3 : Option Value) (x : Int32) (w : px_H) (Q : Option Value → px_H → Prop), wp d 110 23 [l0, l1, some (.int x), l3] [] w 0 Q ↔ wp d 110 24 [l0, l1, some (.int x), l3] [.int x] w 0 Q) ∧
  (∀ (d : Nat) (l0 l1 l2 l3 : Option Value) (x : Int32) (w : px_H) (Q : Option Value → px_H → Prop), wp d 110 24 [l0, l1, l2, l3] [.int x] w 0 Q ↔ px_op (px_tsw 24 64 0 2 #[28, 30, 55] x) (fun t => wp d 110 t [l0, l1, l2, l3] [] w 0 Q)) ∧
  (∀ (d : Nat) (l0 l1 l2 : Option Value) (x : Int32) (w : px_H) (Q : Option Value → px_H → Prop), wp d 110 52 [l0, l1, l2, some (.int x)] [] w 0 Q ↔ wp d 110 53 [l0, l1, l2, some (.int x)] [.int x] w 0 Q) ∧
  (∀ (d : Nat) (l0 l1 l2 l3 : Option Value) (x : Int32) (w : px_H) (Q : Option Value → px_H → Prop), wp d 110 53 [l0, l1, l2, l3] [.int x] w 0 Q ↔ Q (some (.int x)) w) ∧
  (∀ (d : Nat) (l0 l1 l2 : Option Value) (x : Int32) (w : px_H) (Q : Option Value → px_H → Prop), wp d 110 54 [l0, l1, l2, some (.int x)] [] w 0 Q ↔ wp d 110 55 [l0, l1, l2, some (.int x)] [.int x] w 0 Q) ∧
  (∀ (d : Nat) (l1 l2 l3 : Option Value) (s0 : Value) (a : Nat) (w : px_H) (Q : Option Value → px_H → Prop), wp d 110 55 [some (.ref a), l1, l2, l3] [s0] w 0 Q ↔ wp d 110 56 [some (.ref a), l1, l2, l3] [.ref a, s0] w 0 Q) ∧
  (∀ (d : Nat) (l0 l1 l2 l3 : Option Value) (s1 : Value) (a : Nat) (w : px_H) (Q : Option Value → px_H → Prop), wp d 110 56 [l0, l1, l2, l3] [.ref a, s1] w 0 Q ↔ px_op (px_fld w a [(10, 0)] 3) (fun v => wp d 110 59 [l0, l1, l2, l3] [v, s1] w 0 Q)) ∧
  (∀ (d : Nat) (l1 l2 l3 : Option Value) (s0 s1 : Value) (a : Nat) (w : px_H) (Q : Option Value → px_H → Prop), wp d 110 59 [some (.ref a), l1, l2, l3] [s0, s1] w 0 Q ↔ wp d 110 60 [some (.ref a), l1, l2, l3] [.ref a, s0, s1] w 0 Q) ∧
  (∀ (d : Nat) (l0 l1 l2 l3 : Option Value) (s1 s2 : Value) (a : Nat) (w : px_H) (Q : Option Value → px_H → Prop), wp d 110 60 [l0, l1, l2, l3] [.ref a, s1, s2] w 0 Q ↔ px_op (px_fld w a [(10, 0)] 3) (fun v => wp d 110 63 [l0, l1, l2, l3] [v, s1, s2] w 0 Q)) ∧
  (∀ (d : Nat) (l0 l1 l2 l3 : Option Value) (s1 s2 : Value) (a : Nat) (w : px_H) (Q : Option Value → px_H → Prop), wp d 110 63 [l0, l1, l2, l3] [.ref a, s1, s2] w 0 Q ↔ px_op (px_fld w a [(5, 0)] 8) (fun v => wp d 110 66 [l0, l1, l2, l3] [v, s1, s2] w 0 Q)) ∧
  (∀ (d : Nat) (l0 l1 l2 l3 : Option Value) (s2 : Value) (v0 : Value) (b : Nat) (w : px_H) (Q : Option Value → px_H → Prop), wp (d + 1) 110 66 [l0, l1, l2, l3] [v0, .ref b, s2] w 0 Q ↔ px_op (px_tgt w b [(5, 57)]) (fun v => wc d v [.ref b, v0] w (fun r w' => wp (d + 1) 110 69 [l0, l1, l2, l3] (r.toList ++ [s2]) w' 0 Q))) ∧
  (∀ (d : Nat) (l0 l1 l2 l3 : Option Value) (x y : Int32) (w : px_H) (Q : Option Value → px_H → Prop), wp d 110 69 [l0, l1, l2, l3] [.int y, .int x] w 0 Q ↔ wp d 110 70 [l0, l1, l2, l3] [.int (x &&& y)] w 0 Q) ∧
  (∀ (d : Nat) (l0 l1 l2 l3 : Option Value) (x : Int32) (w : px_H) (Q : Option Value → px_H → Prop), wp d 110 70 [l0, l1, l2, l3] [.int x] w 0 Q ↔ if x = 0 then wp d 110 77 [l0, l1, l2, l3] [] w 0 Q else wp d 110 73 [l0, l1, l2, l3] [] w 0 Q) ∧
  (∀ (d : Nat) (l0 l1 l2 l3 : Option Value)  (w : px_H) (Q : Option Value → px_H → Prop), wp d 110 73 [l0, l1, l2, l3] [] w 0 Q ↔ wp d 110 74 [l0, l1, l2, l3] [.int 1] w 0 Q) ∧
  (∀ (d : Nat) (l0 l1 l2 l3 : Option Value) (s0 : Value)  (w : px_H) (Q : Option Value → px_H → Prop), wp d 110 74 [l0, l1, l2, l3] [s0] w 0 Q ↔ wp d 110 78 [l0, l1, l2, l3] [s0] w 0 Q) ∧
  (∀ (d : Nat) (l0 l1 l2 l3 : Option Value)  (w : px_H) (Q : Option Value → px_H → Prop), wp d 110 77 [l0, l1, l2, l3] [] w 0 Q ↔ wp d 110 78 [l0, l1, l2, l3] [.int 0] w 0 Q) ∧
  (∀ (d : Nat) (l0 l1 l2 l3 : Option Value) (x : Int32) (w : px_H) (Q : Option Value → px_H → Prop), wp d 110 78 [l0, l1, l2, l3] [.int x] w 0 Q ↔ Q (some (.int x)) w) ∧
  (∀ (d : Nat) (l1 l2 l3 : Option Value) (a : Nat) (w : px_H) (Q : Option Value → px_H → Prop), wp d 110 79 [some (.ref a), l1, l2, l3] [] w 0 Q ↔ wp d 110 80 [some (.ref a), l1, l2, l3] [.ref a] w 0 Q) ∧
  (∀ (d : Nat) (l0 l1 l2 l3 : Option Value) (a : Nat) (w : px_H) (Q : Option Value → px_H → Prop), wp d 110 80 [l0, l1, l2, l3] [.ref a] w 0 Q ↔ px_op (px_fld w a [(10, 0)] 3) (fun v => wp d 110 83 [l0, l1, l2, l3] [v] w 0 Q)) ∧
  (∀ (d : Nat) (l0 l1 l2 : Option Value) (s0 : Value) (x : Int32) (w : px_H) (Q : Option Value → px_H → Prop), wp d 110 83 [l0, l1, l2, some (.int x)] [s0] w 0 Q ↔ wp d 110 84 [l0, l1, l2, some (.int x)] [.int x, s0] w 0 Q) ∧
  (∀ (d : Nat) (l0 l1 l2 l3 : Option Value) (v0 : Value) (b : Nat) (w : px_H) (Q : Option Value → px_H → Prop), wp (d + 1) 110 84 [l0, l1, l2, l3] [v0, .ref b] w 0 Q ↔ px_op (px_tgt w b [(5, 61)]) (fun v => wc d v [.ref b, v0] w (fun r w' => wp (d + 1) 110 87 [l0, l1, l2, l3] (r.toList ++ []) w' 0 Q))) ∧
  (∀ (d : Nat) (l0 l1 l2 l3 : Option Value) (x : Int32) (w : px_H) (Q : Option Value → px_H → Prop), wp d 110 87 [l0, l1, l2, l3] [.int x] w 0 Q ↔ Q (some (.int x)) w) ∧
  (∀ (d : Nat) (l0 l1 l2 l3 : Option Value)  (w : px_H) (Q : Option Value → px_H → Prop), wp d 110 88 [l0, l1, l2, l3] [] w 0 Q ↔ wp d 110 90 [l0, l1, l2, l3] [.int (-1000001)] w 0 Q) ∧
  (∀ (d : Nat) (l0 l1 l2 l3 : Option Value) (x : Int32) (w : px_H) (Q : Option Value → px_H → Prop), wp d 110 90 [l0, l1, l2, l3] [.int x] w 0 Q ↔ Q (some (.int x)) w) := ⟨fun d v0 v1 v2 w Q => r_entry pt_110 (Nat.le_of_ble_eq_true rfl) rfl,
  fun d l1 l2 l3 a w Q => px_go (q := (.aload_n 0, 1, px_x0)) (S' := (1, [some (.ref a), l1, l2, l3], [.ref a], w, 0)) pt_110 rfl rfl,
  fun d l0 l1 l2 l3 a w Q => px_goO (q := (.getfield 29, 3, (10, 3, [(10, 0)], 0, "AllSworn"))) (S' := fun v => (4, [l0, l1, l2, l3], [v], w, 0)) pt_110 rfl rfl,
  fun d l0 l2 l3 s0 x w Q => px_go (q := (.iload_n 1, 1, px_x0)) (S' := (5, [l0, some (.int x), l2, l3], [.int x, s0], w, 0)) pt_110 rfl rfl,
  fun d l0 l1 l2 l3 v0 b w Q => r_callV (q := (.invokevirtual 142, 3, (33, 1, [(5, 49)], 0, ""))) pt_110 rfl rfl (List.forall_mem_cons.mpr ⟨⟨_, pt_49, Nat.le_of_ble_eq_true rfl, (Nat.le_of_ble_eq_true rfl), rfl⟩, fun _ h => absurd h List.not_mem_nil⟩),
  fun d l0 l1 l2 l3 x w Q => r_if_ne pt_110 rfl rfl,
  fun d l0 l1 l2 l3 w Q => px_go (q := (.ldc 62, 2, (0, 0, [], (-1000001), ""))) (S' := (13, [l0, l1, l2, l3], [.int (-1000001)], w, 0)) pt_110 rfl rfl,
  fun d l0 l1 l2 l3 x w Q => px_ret (q := (.ireturn, 1, px_x0)) pt_110 rfl rfl,
  fun d l1 l2 l3 a w Q => px_go (q := (.aload_n 0, 1, px_x0)) (S' := (15, [some (.ref a), l1, l2, l3], [.ref a], w, 0)) pt_110 rfl rfl,
  fun d l0 l1 l2 l3 a w Q => px_goO (q := (.getfield 29, 3, (10, 3, [(10, 0)], 0, "AllSworn"))) (S' := fun v => (18, [l0, l1, l2, l3], [v], w, 0)) pt_110 rfl rfl,
  fun d l0 l2 l3 s0 x w Q => px_go (q := (.iload_n 1, 1, px_x0)) (S' := (19, [l0, some (.int x), l2, l3], [.int x, s0], w, 0)) pt_110 rfl rfl,
  fun d l0 l1 l2 l3 v0 b w Q => r_callV (q := (.invokevirtual 177, 3, (33, 1, [(5, 50)], 0, ""))) pt_110 rfl rfl (List.forall_mem_cons.mpr ⟨⟨_, pt_50, Nat.le_of_ble_eq_true rfl, (Nat.le_of_ble_eq_true rfl), rfl⟩, fun _ h => absurd h List.not_mem_nil⟩),
  fun d l0 l1 l2 l3 x w Q => px_go (q := (.istore_n 3, 1, px_x0)) (S' := (23, [l0, l1, l2, some (.int x)], [], w, 0)) pt_110 rfl rfl,
  fun d l0 l1 l3 x w Q => px_go (q := (.iload_n 2, 1, px_x0)) (S' := (24, [l0, l1, some (.int x), l3], [.int x], w, 0)) pt_110 rfl rfl,
  fun d l0 l1 l2 l3 x w Q => r_tsw pt_110 rfl,
  fun d l0 l1 l2 x w Q => px_go (q := (.iload_n 3, 1, px_x0)) (S' := (53, [l0, l1, l2, some (.int x)], [.int x], w, 0)) pt_110 rfl rfl,
  fun d l0 l1 l2 l3 x w Q => px_ret (q := (.ireturn, 1, px_x0)) pt_110 rfl rfl,
  fun d l0 l1 l2 x w Q => px_go (q := (.iload_n 3, 1, px_x0)) (S' := (55, [l0, l1, l2, some (.int x)], [.int x], w, 0)) pt_110 rfl rfl,
  fun d l1 l2 l3 s0 a w Q => px_go (q := (.aload_n 0, 1, px_x0)) (S' := (56, [some (.ref a), l1, l2, l3], [.ref a, s0], w, 0)) pt_110 rfl rfl,
  fun d l0 l1 l2 l3 s1 a w Q => px_goO (q := (.getfield 29, 3, (10, 3, [(10, 0)], 0, "AllSworn"))) (S' := fun v => (59, [l0, l1, l2, l3], [v, s1], w, 0)) pt_110 rfl rfl,
  fun d l1 l2 l3 s0 s1 a w Q => px_go (q := (.aload_n 0, 1, px_x0)) (S' := (60, [some (.ref a), l1, l2, l3], [.ref a, s0, s1], w, 0)) pt_110 rfl rfl,
  fun d l0 l1 l2 l3 s1 s2 a w Q => px_goO (q := (.getfield 29, 3, (10, 3, [(10, 0)], 0, "AllSworn"))) (S' := fun v => (63, [l0, l1, l2, l3], [v, s1, s2], w, 0)) pt_110 rfl rfl,
  fun d l0 l1 l2 l3 s1 s2 a w Q => px_goO (q := (.getfield 129, 3, (11, 8, [(5, 0)], 0, "AllSworn$Realm"))) (S' := fun v => (66, [l0, l1, l2, l3], [v, s1, s2], w, 0)) pt_110 rfl rfl,
  fun d l0 l1 l2 l3 s2 v0 b w Q => r_callV (q := (.invokevirtual 171, 3, (33, 1, [(5, 57)], 0, ""))) pt_110 rfl rfl (List.forall_mem_cons.mpr ⟨⟨_, pt_57, Nat.le_of_ble_eq_true rfl, (Nat.le_of_ble_eq_true rfl), rfl⟩, fun _ h => absurd h List.not_mem_nil⟩),
  fun d l0 l1 l2 l3 x y w Q => px_go (q := (.iand, 1, px_x0)) (S' := (70, [l0, l1, l2, l3], [.int (x &&& y)], w, 0)) pt_110 rfl rfl,
  fun d l0 l1 l2 l3 x w Q => r_if_eq pt_110 rfl rfl,
  fun d l0 l1 l2 l3 w Q => r_iconst pt_110 rfl (by decide),
  fun d l0 l1 l2 l3 s0 w Q => r_goto pt_110 rfl rfl,
  fun d l0 l1 l2 l3 w Q => r_iconst pt_110 rfl (by decide),
  fun d l0 l1 l2 l3 x w Q => px_ret (q := (.ireturn, 1, px_x0)) pt_110 rfl rfl,
  fun d l1 l2 l3 a w Q => px_go (q := (.aload_n 0, 1, px_x0)) (S' := (80, [some (.ref a), l1, l2, l3], [.ref a], w, 0)) pt_110 rfl rfl,
  fun d l0 l1 l2 l3 a w Q => px_goO (q := (.getfield 29, 3, (10, 3, [(10, 0)], 0, "AllSworn"))) (S' := fun v => (83, [l0, l1, l2, l3], [v], w, 0)) pt_110 rfl rfl,
  fun d l0 l1 l2 s0 x w Q => px_go (q := (.iload_n 3, 1, px_x0)) (S' := (84, [l0, l1, l2, some (.int x)], [.int x, s0], w, 0)) pt_110 rfl rfl,
  fun d l0 l1 l2 l3 v0 b w Q => r_callV (q := (.invokevirtual 180, 3, (33, 1, [(5, 61)], 0, ""))) pt_110 rfl rfl (List.forall_mem_cons.mpr ⟨⟨_, pt_61, Nat.le_of_ble_eq_true rfl, (Nat.le_of_ble_eq_true rfl), rfl⟩, fun _ h => absurd h List.not_mem_nil⟩),
  fun d l0 l1 l2 l3 x w Q => px_ret (q := (.ireturn, 1, px_x0)) pt_110 rfl rfl,
  fun d l0 l1 l2 l3 w Q => px_go (q := (.ldc 62, 2, (0, 0, [], (-1000001), ""))) (S' := (90, [l0, l1, l2, l3], [.int (-1000001)], w, 0)) pt_110 rfl rfl,
  fun d l0 l1 l2 l3 x w Q => px_ret (q := (.ireturn, 1, px_x0)) pt_110 rfl rfl⟩
/-- AllSworn.open(I)I -/
theorem S111 : (∀ (d : Nat) (v0 v1 : Value) (w : px_H) (Q : Option Value → px_H → Prop), wc d 111 [v0, v1] w Q ↔ wp d 111 0 [some v0, some v1] [] w 0 Q) ∧
  (∀ (d : Nat) (l1 : Option Value) (a : Nat) (w : px_H) (Q : Option Value → px_H → Prop), wp d 111 0 [some (.ref a), l1] [] w 0 Q ↔ wp d 111 1 [some (.ref a), l1] [.ref a] w 0 Q) ∧
  (∀ (d : Nat) (l0 l1 : Option Value) (a : Nat) (w : px_H) (Q : Option Value → px_H → Prop), wp d 111 1 [l0, l1] [.ref a] w 0 Q ↔ px_op (px_fld w a [(10, 0)] 3) (fun v => wp d 111 4 [l0, l1] [v] w 0 Q)) ∧
  (∀ (d : Nat) (l0 l1 : Option Value)  (b : Nat) (w : px_H) (Q : Option Value → px_H → Prop), wp (d + 1) 111 4 [l0, l1] [.ref b] w 0 Q ↔ px_op (px_tgt w b [(5, 42)]) (fun v => wc d v [.ref b] w (fun r w' => wp (d + 1) 111 7 [l0, l1] (r.toList ++ []) w' 0 Q))) ∧
  (∀ (d : Nat) (l0 l1 : Option Value) (x : Int32) (w : px_H) (Q : Option Value → px_H → Prop), wp d 111 7 [l0, l1] [.int x] w 0 Q ↔ if x = 0 then wp d 111 10 [l0, l1] [] w 0 Q else wp d 111 13 [l0, l1] [] w 0 Q) ∧
  (∀ (d : Nat) (l0 l1 : Option Value)  (w : px_H) (Q : Option Value → px_H → Prop), wp d 111 10 [l0, l1] [] w 0 Q ↔ wp d 111 12 [l0, l1] [.int (-1000002)] w 0 Q) ∧
  (∀ (d : Nat) (l0 l1 : Option Value) (x : Int32) (w : px_H) (Q : Option Value → px_H → Prop), wp d 111 12 [l0, l1] [.int x] w 0 Q ↔ Q (some (.int x)) w) ∧
  (∀ (d : Nat) (l1 : Option Value) (a : Nat) (w : px_H) (Q : Option Value → px_H → Prop), wp d 111 13 [some (.ref a), l1] [] w 0 Q ↔ wp d 111 14 [some (.ref a), l1] [.ref a] w 0 Q) ∧
  (∀ (d : Nat) (l0 : Option Value) (s0 : Value) (x : Int32) (w : px_H) (Q : Option Value → px_H → Prop), wp d 111 14 [l0, some (.int x)] [s0] w 0 Q ↔ wp d 111 15 [l0, some (.int x)] [.int x, s0] w 0 Q) ∧
  (∀ (d : Nat) (l0 l1 : Option Value) (v0 : Value) (b : Nat) (w : px_H) (Q : Option Value → px_H → Prop), wp (d + 1) 111 15 [l0, l1] [v0, .ref b] w 0 Q ↔ px_op (px_tgt w b [(10, 134)]) (fun v => wc d v [.ref b, v0] w (fun r w' => wp (d + 1) 111 18 [l0, l1] (r.toList ++ []) w' 0 Q))) ∧
  (∀ (d : Nat) (l0 l1 : Option Value) (x : Int32) (w : px_H) (Q : Option Value → px_H → Prop), wp d 111 18 [l0, l1] [.int x] w 0 Q ↔ if x = 0 then wp d 111 32 [l0, l1] [] w 0 Q else wp d 111 21 [l0, l1] [] w 0 Q) ∧
  (∀ (d : Nat) (l1 : Option Value) (a : Nat) (w : px_H) (Q : Option Value → px_H → Prop), wp d 111 21 [some (.ref a), l1] [] w 0 Q ↔ wp d 111 22 [some (.ref a), l1] [.ref a] w 0 Q) ∧
  (∀ (d : Nat) (l0 l1 : Option Value) (a : Nat) (w : px_H) (Q : Option Value → px_H → Prop), wp d 111 22 [l0, l1] [.ref a] w 0 Q ↔ px_op (px_fld w a [(10, 0)] 3) (fun v => wp d 111 25 [l0, l1] [v] w 0 Q)) ∧
  (∀ (d : Nat) (l0 : Option Value) (s0 : Value) (x : Int32) (w : px_H) (Q : Option Value → px_H → Prop), wp d 111 25 [l0, some (.int x)] [s0] w 0 Q ↔ wp d 111 26 [l0, some (.int x)] [.int x, s0] w 0 Q) ∧
  (∀ (d : Nat) (l0 l1 : Option Value) (v0 : Value) (b : Nat) (w : px_H) (Q : Option Value → px_H → Prop), wp (d + 1) 111 26 [l0, l1] [v0, .ref b] w 0 Q ↔ px_op (px_tgt w b [(5, 59)]) (fun v => wc d v [.ref b, v0] w (fun r w' => wp (d + 1) 111 29 [l0, l1] (r.toList ++ []) w' 0 Q))) ∧
  (∀ (d : Nat) (l0 l1 : Option Value) (s0 : Value)  (w : px_H) (Q : Option Value → px_H → Prop), wp d 111 29 [l0, l1] [s0] w 0 Q ↔ wp d 111 34 [l0, l1] [s0] w 0 Q) ∧
  (∀ (d : Nat) (l0 l1 : Option Value)  (w : px_H) (Q : Option Value → px_H → Prop), wp d 111 32 [l0, l1] [] w 0 Q ↔ wp d 111 34 [l0, l1] [.int (-1000001)] w 0 Q) ∧
  (∀ (d : Nat) (l0 l1 : Option Value) (x : Int32) (w : px_H) (Q : Option Value → px_H → Prop), wp d 111 34 [l0, l1] [.int x] w 0 Q ↔ Q (some (.int x)) w) := ⟨fun d v0 v1 w Q => r_entry pt_111 (Nat.le_of_ble_eq_true rfl) rfl,
  fun d l1 a w Q => px_go (q := (.aload_n 0, 1, px_x0)) (S' := (1, [some (.ref a), l1], [.ref a], w, 0)) pt_111 rfl rfl,
  fun d l0 l1 a w Q => px_goO (q := (.getfield 29, 3, (10, 3, [(10, 0)], 0, "AllSworn"))) (S' := fun v => (4, [l0, l1], [v], w, 0)) pt_111 rfl rfl,
  fun d l0 l1 b w Q => r_callV (q := (.invokevirtual 148, 3, (33, 0, [(5, 42)], 0, ""))) pt_111 rfl rfl (List.forall_mem_cons.mpr ⟨⟨_, pt_42, Nat.le_of_ble_eq_true rfl, (Nat.le_of_ble_eq_true rfl), rfl⟩, fun _ h => absurd h List.not_mem_nil⟩),
  fun d l0 l1 x w Q => r_if_ne pt_111 rfl rfl,
  fun d l0 l1 w Q => px_go (q := (.ldc 151, 2, (0, 0, [], (-1000002), ""))) (S' := (12, [l0, l1], [.int (-1000002)], w, 0)) pt_111 rfl rfl,
  fun d l0 l1 x w Q => px_ret (q := (.ireturn, 1, px_x0)) pt_111 rfl rfl,
  fun d l1 a w Q => px_go (q := (.aload_n 0, 1, px_x0)) (S' := (14, [some (.ref a), l1], [.ref a], w, 0)) pt_111 rfl rfl,
  fun d l0 s0 x w Q => px_go (q := (.iload_n 1, 1, px_x0)) (S' := (15, [l0, some (.int x)], [.int x, s0], w, 0)) pt_111 rfl rfl,
  fun d l0 l1 v0 b w Q => r_callV (q := (.invokevirtual 183, 3, (33, 1, [(10, 134)], 0, ""))) pt_111 rfl rfl (List.forall_mem_cons.mpr ⟨⟨_, pt_134, Nat.le_of_ble_eq_true rfl, (Nat.le_of_ble_eq_true rfl), rfl⟩, fun _ h => absurd h List.not_mem_nil⟩),
  fun d l0 l1 x w Q => r_if_eq pt_111 rfl rfl,
  fun d l1 a w Q => px_go (q := (.aload_n 0, 1, px_x0)) (S' := (22, [some (.ref a), l1], [.ref a], w, 0)) pt_111 rfl rfl,
  fun d l0 l1 a w Q => px_goO (q := (.getfield 29, 3, (10, 3, [(10, 0)], 0, "AllSworn"))) (S' := fun v => (25, [l0, l1], [v], w, 0)) pt_111 rfl rfl,
  fun d l0 s0 x w Q => px_go (q := (.iload_n 1, 1, px_x0)) (S' := (26, [l0, some (.int x)], [.int x, s0], w, 0)) pt_111 rfl rfl,
  fun d l0 l1 v0 b w Q => r_callV (q := (.invokevirtual 186, 3, (33, 1, [(5, 59)], 0, ""))) pt_111 rfl rfl (List.forall_mem_cons.mpr ⟨⟨_, pt_59, Nat.le_of_ble_eq_true rfl, (Nat.le_of_ble_eq_true rfl), rfl⟩, fun _ h => absurd h List.not_mem_nil⟩),
  fun d l0 l1 s0 w Q => r_goto pt_111 rfl rfl,
  fun d l0 l1 w Q => px_go (q := (.ldc 62, 2, (0, 0, [], (-1000001), ""))) (S' := (34, [l0, l1], [.int (-1000001)], w, 0)) pt_111 rfl rfl,
  fun d l0 l1 x w Q => px_ret (q := (.ireturn, 1, px_x0)) pt_111 rfl rfl⟩
/-- AllSworn.gap()I -/
theorem S112 : (∀ (d : Nat) (v0 : Value) (w : px_H) (Q : Option Value → px_H → Prop), wc d 112 [v0] w Q ↔ wp d 112 0 [some v0] [] w 0 Q) ∧
  (∀ (d : Nat) (a : Nat) (w : px_H) (Q : Option Value → px_H → Prop), wp d 112 0 [some (.ref a)] [] w 0 Q ↔ wp d 112 1 [some (.ref a)] [.ref a] w 0 Q) ∧
  (∀ (d : Nat) (l0 : Option Value) (a : Nat) (w : px_H) (Q : Option Value → px_H → Prop), wp d 112 1 [l0] [.ref a] w 0 Q ↔ px_op (px_fld w a [(10, 0)] 3) (fun v => wp d 112 4 [l0] [v] w 0 Q)) ∧
  (∀ (d : Nat) (l0 : Option Value)  (b : Nat) (w : px_H) (Q : Option Value → px_H → Prop), wp (d + 1) 112 4 [l0] [.ref b] w 0 Q ↔ px_op (px_tgt w b [(5, 42)]) (fun v => wc d v [.ref b] w (fun r w' => wp (d + 1) 112 7 [l0] (r.toList ++ []) w' 0 Q))) ∧
  (∀ (d : Nat) (l0 : Option Value) (x : Int32) (w : px_H) (Q : Option Value → px_H → Prop), wp d 112 7 [l0] [.int x] w 0 Q ↔ if x = 0 then wp d 112 24 [l0] [] w 0 Q else wp d 112 10 [l0] [] w 0 Q) ∧
  (∀ (d : Nat) (a : Nat) (w : px_H) (Q : Option Value → px_H → Prop), wp d 112 10 [some (.ref a)] [] w 0 Q ↔ wp d 112 11 [some (.ref a)] [.ref a] w 0 Q) ∧
  (∀ (d : Nat) (l0 : Option Value) (a : Nat) (w : px_H) (Q : Option Value → px_H → Prop), wp d 112 11 [l0] [.ref a] w 0 Q ↔ px_op (px_fld w a [(10, 0)] 5) (fun v => wp d 112 14 [l0] [v] w 0 Q)) ∧
  (∀ (d : Nat) (s0 : Value) (a : Nat) (w : px_H) (Q : Option Value → px_H → Prop), wp d 112 14 [some (.ref a)] [s0] w 0 Q ↔ wp d 112 15 [some (.ref a)] [.ref a, s0] w 0 Q) ∧
  (∀ (d : Nat) (l0 : Option Value) (s1 : Value) (a : Nat) (w : px_H) (Q : Option Value → px_H → Prop), wp d 112 15 [l0] [.ref a, s1] w 0 Q ↔ px_op (px_fld w a [(10, 0)] 3) (fun v => wp d 112 18 [l0] [v, s1] w 0 Q)) ∧
  (∀ (d : Nat) (l0 : Option Value) (v0 : Value) (b : Nat) (w : px_H) (Q : Option Value → px_H → Prop), wp (d + 1) 112 18 [l0] [v0, .ref b] w 0 Q ↔ px_op (px_tgt w b [(2, 13)]) (fun v => wc d v [.ref b, v0] w (fun r w' => wp (d + 1) 112 21 [l0] (r.toList ++ []) w' 0 Q))) ∧
  (∀ (d : Nat) (l0 : Option Value) (s0 : Value)  (w : px_H) (Q : Option Value → px_H → Prop), wp d 112 21 [l0] [s0] w 0 Q ↔ wp d 112 26 [l0] [s0] w 0 Q) ∧
  (∀ (d : Nat) (l0 : Option Value)  (w : px_H) (Q : Option Value → px_H → Prop), wp d 112 24 [l0] [] w 0 Q ↔ wp d 112 26 [l0] [.int (-1000002)] w 0 Q) ∧
  (∀ (d : Nat) (l0 : Option Value) (x : Int32) (w : px_H) (Q : Option Value → px_H → Prop), wp d 112 26 [l0] [.int x] w 0 Q ↔ Q (some (.int x)) w) := ⟨fun d v0 w Q => r_entry pt_112 (Nat.le_of_ble_eq_true rfl) rfl,
  fun d a w Q => px_go (q := (.aload_n 0, 1, px_x0)) (S' := (1, [some (.ref a)], [.ref a], w, 0)) pt_112 rfl rfl,
  fun d l0 a w Q => px_goO (q := (.getfield 29, 3, (10, 3, [(10, 0)], 0, "AllSworn"))) (S' := fun v => (4, [l0], [v], w, 0)) pt_112 rfl rfl,
  fun d l0 b w Q => r_callV (q := (.invokevirtual 148, 3, (33, 0, [(5, 42)], 0, ""))) pt_112 rfl rfl (List.forall_mem_cons.mpr ⟨⟨_, pt_42, Nat.le_of_ble_eq_true rfl, (Nat.le_of_ble_eq_true rfl), rfl⟩, fun _ h => absurd h List.not_mem_nil⟩),
  fun d l0 x w Q => r_if_eq pt_112 rfl rfl,
  fun d a w Q => px_go (q := (.aload_n 0, 1, px_x0)) (S' := (11, [some (.ref a)], [.ref a], w, 0)) pt_112 rfl rfl,
  fun d l0 a w Q => px_goO (q := (.getfield 39, 3, (10, 5, [(10, 0)], 0, "AllSworn"))) (S' := fun v => (14, [l0], [v], w, 0)) pt_112 rfl rfl,
  fun d s0 a w Q => px_go (q := (.aload_n 0, 1, px_x0)) (S' := (15, [some (.ref a)], [.ref a, s0], w, 0)) pt_112 rfl rfl,
  fun d l0 s1 a w Q => px_goO (q := (.getfield 29, 3, (10, 3, [(10, 0)], 0, "AllSworn"))) (S' := fun v => (18, [l0], [v, s1], w, 0)) pt_112 rfl rfl,
  fun d l0 v0 b w Q => r_callV (q := (.invokevirtual 189, 3, (33, 1, [(2, 13)], 0, ""))) pt_112 rfl rfl (List.forall_mem_cons.mpr ⟨⟨_, pt_13, Nat.le_of_ble_eq_true rfl, (Nat.le_of_ble_eq_true rfl), rfl⟩, fun _ h => absurd h List.not_mem_nil⟩),
  fun d l0 s0 w Q => r_goto pt_112 rfl rfl,
  fun d l0 w Q => px_go (q := (.ldc 151, 2, (0, 0, [], (-1000002), ""))) (S' := (26, [l0], [.int (-1000002)], w, 0)) pt_112 rfl rfl,
  fun d l0 x w Q => px_ret (q := (.ireturn, 1, px_x0)) pt_112 rfl rfl⟩
/-- AllSworn.cover(I)I -/
theorem S113 : (∀ (d : Nat) (v0 v1 : Value) (w : px_H) (Q : Option Value → px_H → Prop), wc d 113 [v0, v1] w Q ↔ wp d 113 0 [some v0, some v1] [] w 0 Q) ∧
  (∀ (d : Nat) (l1 : Option Value) (a : Nat) (w : px_H) (Q : Option Value → px_H → Prop), wp d 113 0 [some (.ref a), l1] [] w 0 Q ↔ wp d 113 1 [some (.ref a), l1] [.ref a] w 0 Q) ∧
  (∀ (d : Nat) (l0 l1 : Option Value) (a : Nat) (w : px_H) (Q : Option Value → px_H → Prop), wp d 113 1 [l0, l1] [.ref a] w 0 Q ↔ px_op (px_fld w a [(10, 0)] 3) (fun v => wp d 113 4 [l0, l1] [v] w 0 Q)) ∧
  (∀ (d : Nat) (l0 l1 : Option Value)  (b : Nat) (w : px_H) (Q : Option Value → px_H → Prop), wp (d + 1) 113 4 [l0, l1] [.ref b] w 0 Q ↔ px_op (px_tgt w b [(5, 42)]) (fun v => wc d v [.ref b] w (fun r w' => wp (d + 1) 113 7 [l0, l1] (r.toList ++ []) w' 0 Q))) ∧
  (∀ (d : Nat) (l0 l1 : Option Value) (x : Int32) (w : px_H) (Q : Option Value → px_H → Prop), wp d 113 7 [l0, l1] [.int x] w 0 Q ↔ if x = 0 then wp d 113 10 [l0, l1] [] w 0 Q else wp d 113 13 [l0, l1] [] w 0 Q) ∧
  (∀ (d : Nat) (l0 l1 : Option Value)  (w : px_H) (Q : Option Value → px_H → Prop), wp d 113 10 [l0, l1] [] w 0 Q ↔ wp d 113 12 [l0, l1] [.int (-1000002)] w 0 Q) ∧
  (∀ (d : Nat) (l0 l1 : Option Value) (x : Int32) (w : px_H) (Q : Option Value → px_H → Prop), wp d 113 12 [l0, l1] [.int x] w 0 Q ↔ Q (some (.int x)) w) ∧
  (∀ (d : Nat) (l0 : Option Value) (x : Int32) (w : px_H) (Q : Option Value → px_H → Prop), wp d 113 13 [l0, some (.int x)] [] w 0 Q ↔ wp d 113 14 [l0, some (.int x)] [.int x] w 0 Q) ∧
  (∀ (d : Nat) (l0 l1 : Option Value) (v0 : Value) (w : px_H) (Q : Option Value → px_H → Prop), wp (d + 1) 113 14 [l0, l1] [v0] w 0 Q ↔ wc d 135 [v0] w (fun r w' => wp (d + 1) 113 17 [l0, l1] (r.toList ++ []) w' 0 Q)) ∧
  (∀ (d : Nat) (l0 l1 : Option Value) (x : Int32) (w : px_H) (Q : Option Value → px_H → Prop), wp d 113 17 [l0, l1] [.int x] w 0 Q ↔ if x = 0 then wp d 113 38 [l0, l1] [] w 0 Q else wp d 113 20 [l0, l1] [] w 0 Q) ∧
  (∀ (d : Nat) (l1 : Option Value) (a : Nat) (w : px_H) (Q : Option Value → px_H → Prop), wp d 113 20 [some (.ref a), l1] [] w 0 Q ↔ wp d 113 21 [some (.ref a), l1] [.ref a] w 0 Q) ∧
  (∀ (d : Nat) (l0 l1 : Option Value) (a : Nat) (w : px_H) (Q : Option Value → px_H → Prop), wp d 113 21 [l0, l1] [.ref a] w 0 Q ↔ px_op (px_fld w a [(10, 0)] 5) (fun v => wp d 113 24 [l0, l1] [v] w 0 Q)) ∧
  (∀ (d : Nat) (l1 : Option Value) (s0 : Value) (a : Nat) (w : px_H) (Q : Option Value → px_H → Prop), wp d 113 24 [some (.ref a), l1] [s0] w 0 Q ↔ wp d 113 25 [some (.ref a), l1] [.ref a, s0] w 0 Q) ∧
  (∀ (d : Nat) (l0 l1 : Option Value) (s1 : Value) (a : Nat) (w : px_H) (Q : Option Value → px_H → Prop), wp d 113 25 [l0, l1] [.ref a, s1] w 0 Q ↔ px_op (px_fld w a [(10, 0)] 3) (fun v => wp d 113 28 [l0, l1] [v, s1] w 0 Q)) ∧
  (∀ (d : Nat) (l0 l1 : Option Value) (v0 : Value) (b : Nat) (w : px_H) (Q : Option Value → px_H → Prop), wp (d + 1) 113 28 [l0, l1] [v0, .ref b] w 0 Q ↔ px_op (px_tgt w b [(2, 14)]) (fun v => wc d v [.ref b, v0] w (fun r w' => wp (d + 1) 113 31 [l0, l1] (r.toList ++ []) w' 0 Q))) ∧
  (∀ (d : Nat) (l0 : Option Value) (s0 : Value) (x : Int32) (w : px_H) (Q : Option Value → px_H → Prop), wp d 113 31 [l0, some (.int x)] [s0] w 0 Q ↔ wp d 113 32 [l0, some (.int x)] [.int x, s0] w 0 Q) ∧
  (∀ (d : Nat) (l0 l1 : Option Value) (v0 v1 : Value) (w : px_H) (Q : Option Value → px_H → Prop), wp (d + 1) 113 32 [l0, l1] [v1, v0] w 0 Q ↔ wc d 136 [v0, v1] w (fun r w' => wp (d + 1) 113 35 [l0, l1] (r.toList ++ []) w' 0 Q)) ∧
  (∀ (d : Nat) (l0 l1 : Option Value) (s0 : Value)  (w : px_H) (Q : Option Value → px_H → Prop), wp d 113 35 [l0, l1] [s0] w 0 Q ↔ wp d 113 40 [l0, l1] [s0] w 0 Q) ∧
  (∀ (d : Nat) (l0 l1 : Option Value)  (w : px_H) (Q : Option Value → px_H → Prop), wp d 113 38 [l0, l1] [] w 0 Q ↔ wp d 113 40 [l0, l1] [.int (-1000001)] w 0 Q) ∧
  (∀ (d : Nat) (l0 l1 : Option Value) (x : Int32) (w : px_H) (Q : Option Value → px_H → Prop), wp d 113 40 [l0, l1] [.int x] w 0 Q ↔ Q (some (.int x)) w) := ⟨fun d v0 v1 w Q => r_entry pt_113 (Nat.le_of_ble_eq_true rfl) rfl,
  fun d l1 a w Q => px_go (q := (.aload_n 0, 1, px_x0)) (S' := (1, [some (.ref a), l1], [.ref a], w, 0)) pt_113 rfl rfl,
  fun d l0 l1 a w Q => px_goO (q := (.getfield 29, 3, (10, 3, [(10, 0)], 0, "AllSworn"))) (S' := fun v => (4, [l0, l1], [v], w, 0)) pt_113 rfl rfl,
  fun d l0 l1 b w Q => r_callV (q := (.invokevirtual 148, 3, (33, 0, [(5, 42)], 0, ""))) pt_113 rfl rfl (List.forall_mem_cons.mpr ⟨⟨_, pt_42, Nat.le_of_ble_eq_true rfl, (Nat.le_of_ble_eq_true rfl), rfl⟩, fun _ h => absurd h List.not_mem_nil⟩),
  fun d l0 l1 x w Q => r_if_ne pt_113 rfl rfl,
  fun d l0 l1 w Q => px_go (q := (.ldc 151, 2, (0, 0, [], (-1000002), ""))) (S' := (12, [l0, l1], [.int (-1000002)], w, 0)) pt_113 rfl rfl,
  fun d l0 l1 x w Q => px_ret (q := (.ireturn, 1, px_x0)) pt_113 rfl rfl,
  fun d l0 x w Q => px_go (q := (.iload_n 1, 1, px_x0)) (S' := (14, [l0, some (.int x)], [.int x], w, 0)) pt_113 rfl rfl,
  fun d l0 l1 v0 w Q => r_call (q := (.invokestatic 193, 3, (30, 1, [(0, 135)], 0, ""))) pt_113 rfl rfl pt_135 (Nat.le_of_ble_eq_true rfl) (Nat.le_of_ble_eq_true rfl) rfl,
  fun d l0 l1 x w Q => r_if_eq pt_113 rfl rfl,
  fun d l1 a w Q => px_go (q := (.aload_n 0, 1, px_x0)) (S' := (21, [some (.ref a), l1], [.ref a], w, 0)) pt_113 rfl rfl,
  fun d l0 l1 a w Q => px_goO (q := (.getfield 39, 3, (10, 5, [(10, 0)], 0, "AllSworn"))) (S' := fun v => (24, [l0, l1], [v], w, 0)) pt_113 rfl rfl,
  fun d l1 s0 a w Q => px_go (q := (.aload_n 0, 1, px_x0)) (S' := (25, [some (.ref a), l1], [.ref a, s0], w, 0)) pt_113 rfl rfl,
  fun d l0 l1 s1 a w Q => px_goO (q := (.getfield 29, 3, (10, 3, [(10, 0)], 0, "AllSworn"))) (S' := fun v => (28, [l0, l1], [v, s1], w, 0)) pt_113 rfl rfl,
  fun d l0 l1 v0 b w Q => r_callV (q := (.invokevirtual 196, 3, (33, 1, [(2, 14)], 0, ""))) pt_113 rfl rfl (List.forall_mem_cons.mpr ⟨⟨_, pt_14, Nat.le_of_ble_eq_true rfl, (Nat.le_of_ble_eq_true rfl), rfl⟩, fun _ h => absurd h List.not_mem_nil⟩),
  fun d l0 s0 x w Q => px_go (q := (.iload_n 1, 1, px_x0)) (S' := (32, [l0, some (.int x)], [.int x, s0], w, 0)) pt_113 rfl rfl,
  fun d l0 l1 v0 v1 w Q => r_call (q := (.invokestatic 199, 3, (30, 2, [(0, 136)], 0, ""))) pt_113 rfl rfl pt_136 (Nat.le_of_ble_eq_true rfl) (Nat.le_of_ble_eq_true rfl) rfl,
  fun d l0 l1 s0 w Q => r_goto pt_113 rfl rfl,
  fun d l0 l1 w Q => px_go (q := (.ldc 62, 2, (0, 0, [], (-1000001), ""))) (S' := (40, [l0, l1], [.int (-1000001)], w, 0)) pt_113 rfl rfl,
  fun d l0 l1 x w Q => px_ret (q := (.ireturn, 1, px_x0)) pt_113 rfl rfl⟩
/-- AllSworn.round(I)I -/
theorem S114 : (∀ (d : Nat) (v0 v1 : Value) (w : px_H) (Q : Option Value → px_H → Prop), wc d 114 [v0, v1] w Q ↔ wp d 114 0 [some v0, some v1] [] w 0 Q) ∧
  (∀ (d : Nat) (l1 : Option Value) (a : Nat) (w : px_H) (Q : Option Value → px_H → Prop), wp d 114 0 [some (.ref a), l1] [] w 0 Q ↔ wp d 114 1 [some (.ref a), l1] [.ref a] w 0 Q) ∧
  (∀ (d : Nat) (l0 l1 : Option Value) (a : Nat) (w : px_H) (Q : Option Value → px_H → Prop), wp d 114 1 [l0, l1] [.ref a] w 0 Q ↔ px_op (px_fld w a [(10, 0)] 3) (fun v => wp d 114 4 [l0, l1] [v] w 0 Q)) ∧
  (∀ (d : Nat) (l0 l1 : Option Value)  (b : Nat) (w : px_H) (Q : Option Value → px_H → Prop), wp (d + 1) 114 4 [l0, l1] [.ref b] w 0 Q ↔ px_op (px_tgt w b [(5, 42)]) (fun v => wc d v [.ref b] w (fun r w' => wp (d + 1) 114 7 [l0, l1] (r.toList ++ []) w' 0 Q))) ∧
  (∀ (d : Nat) (l0 l1 : Option Value) (x : Int32) (w : px_H) (Q : Option Value → px_H → Prop), wp d 114 7 [l0, l1] [.int x] w 0 Q ↔ if x = 0 then wp d 114 10 [l0, l1] [] w 0 Q else wp d 114 13 [l0, l1] [] w 0 Q) ∧
  (∀ (d : Nat) (l0 l1 : Option Value)  (w : px_H) (Q : Option Value → px_H → Prop), wp d 114 10 [l0, l1] [] w 0 Q ↔ wp d 114 12 [l0, l1] [.int (-1000002)] w 0 Q) ∧
  (∀ (d : Nat) (l0 l1 : Option Value) (x : Int32) (w : px_H) (Q : Option Value → px_H → Prop), wp d 114 12 [l0, l1] [.int x] w 0 Q ↔ Q (some (.int x)) w) ∧
  (∀ (d : Nat) (l0 : Option Value) (x : Int32) (w : px_H) (Q : Option Value → px_H → Prop), wp d 114 13 [l0, some (.int x)] [] w 0 Q ↔ wp d 114 14 [l0, some (.int x)] [.int x] w 0 Q) ∧
  (∀ (d : Nat) (l0 l1 : Option Value) (s0 : Value)  (w : px_H) (Q : Option Value → px_H → Prop), wp d 114 14 [l0, l1] [s0] w 0 Q ↔ wp d 114 16 [l0, l1] [.int (-2), s0] w 0 Q) ∧
  (∀ (d : Nat) (l0 l1 : Option Value) (x y : Int32) (w : px_H) (Q : Option Value → px_H → Prop), wp d 114 16 [l0, l1] [.int y, .int x] w 0 Q ↔ if x < y then wp d 114 24 [l0, l1] [] w 0 Q else wp d 114 19 [l0, l1] [] w 0 Q) ∧
  (∀ (d : Nat) (l0 : Option Value) (x : Int32) (w : px_H) (Q : Option Value → px_H → Prop), wp d 114 19 [l0, some (.int x)] [] w 0 Q ↔ wp d 114 20 [l0, some (.int x)] [.int x] w 0 Q) ∧
  (∀ (d : Nat) (l0 l1 : Option Value) (s0 : Value)  (w : px_H) (Q : Option Value → px_H → Prop), wp d 114 20 [l0, l1] [s0] w 0 Q ↔ wp d 114 21 [l0, l1] [.int 4, s0] w 0 Q) ∧
  (∀ (d : Nat) (l0 l1 : Option Value) (x y : Int32) (w : px_H) (Q : Option Value → px_H → Prop), wp d 114 21 [l0, l1] [.int y, .int x] w 0 Q ↔ if x < y then wp d 114 27 [l0, l1] [] w 0 Q else wp d 114 24 [l0, l1] [] w 0 Q) ∧
  (∀ (d : Nat) (l0 l1 : Option Value)  (w : px_H) (Q : Option Value → px_H → Prop), wp d 114 24 [l0, l1] [] w 0 Q ↔ wp d 114 26 [l0, l1] [.int (-1000001)] w 0 Q) ∧
  (∀ (d : Nat) (l0 l1 : Option Value) (x : Int32) (w : px_H) (Q : Option Value → px_H → Prop), wp d 114 26 [l0, l1] [.int x] w 0 Q ↔ Q (some (.int x)) w) ∧
  (∀ (d : Nat) (l1 : Option Value) (a : Nat) (w : px_H) (Q : Option Value → px_H → Prop), wp d 114 27 [some (.ref a), l1] [] w 0 Q ↔ wp d 114 28 [some (.ref a), l1] [.ref a] w 0 Q) ∧
  (∀ (d : Nat) (l0 l1 : Option Value) (a : Nat) (w : px_H) (Q : Option Value → px_H → Prop), wp d 114 28 [l0, l1] [.ref a] w 0 Q ↔ px_op (px_fld w a [(10, 0)] 5) (fun v => wp d 114 31 [l0, l1] [v] w 0 Q)) ∧
  (∀ (d : Nat) (l1 : Option Value) (s0 : Value) (a : Nat) (w : px_H) (Q : Option Value → px_H → Prop), wp d 114 31 [some (.ref a), l1] [s0] w 0 Q ↔ wp d 114 32 [some (.ref a), l1] [.ref a, s0] w 0 Q) ∧
  (∀ (d : Nat) (l0 l1 : Option Value) (s1 : Value) (a : Nat) (w : px_H) (Q : Option Value → px_H → Prop), wp d 114 32 [l0, l1] [.ref a, s1] w 0 Q ↔ px_op (px_fld w a [(10, 0)] 3) (fun v => wp d 114 35 [l0, l1] [v, s1] w 0 Q)) ∧
  (∀ (d : Nat) (l0 l1 : Option Value) (v0 : Value) (b : Nat) (w : px_H) (Q : Option Value → px_H → Prop), wp (d + 1) 114 35 [l0, l1] [v0, .ref b] w 0 Q ↔ px_op (px_tgt w b [(2, 16)]) (fun v => wc d v [.ref b, v0] w (fun r w' => wp (d + 1) 114 38 [l0, l1] (r.toList ++ []) w' 0 Q))) ∧
  (∀ (d : Nat) (l0 : Option Value) (x : Int32) (w : px_H) (Q : Option Value → px_H → Prop), wp d 114 38 [l0, some (.int x)] [] w 0 Q ↔ wp d 114 39 [l0, some (.int x)] [.int x] w 0 Q) ∧
  (∀ (d : Nat) (l0 l1 : Option Value) (x : Int32) (w : px_H) (Q : Option Value → px_H → Prop), wp d 114 39 [l0, l1] [.int x] w 0 Q ↔ px_op (px_lsw 39 41 #[(-2, 25), (-1, 33)] x) (fun t => wp d 114 t [l0, l1] [] w 0 Q)) ∧
  (∀ (d : Nat) (l1 : Option Value) (a : Nat) (w : px_H) (Q : Option Value → px_H → Prop), wp d 114 64 [some (.ref a), l1] [] w 0 Q ↔ wp d 114 65 [some (.ref a), l1] [.ref a] w 0 Q) ∧
  (∀ (d : Nat) (l0 l1 : Option Value) (a : Nat) (w : px_H) (Q : Option Value → px_H → Prop), wp d 114 65 [l0, l1] [.ref a] w 0 Q ↔ px_op (px_fld w a [(10, 0)] 5) (fun v => wp d 114 68 [l0, l1] [v] w 0 Q)) ∧
  (∀ (d : Nat) (l0 l1 : Option Value) (a : Nat) (w : px_H) (Q : Option Value → px_H → Prop), wp d 114 68 [l0, l1] [.ref a] w 0 Q ↔ px_op (px_fld w a [(2, 0)] 3) (fun v => wp d 114 71 [l0, l1] [v] w 0 Q)) ∧
  (∀ (d : Nat) (l0 l1 : Option Value) (x : Int32) (w : px_H) (Q : Option Value → px_H → Prop), wp d 114 71 [l0, l1] [.int x] w 0 Q ↔ Q (some (.int x)) w) ∧
  (∀ (d : Nat) (l1 : Option Value) (a : Nat) (w : px_H) (Q : Option Value → px_H → Prop), wp d 114 72 [some (.ref a), l1] [] w 0 Q ↔ wp d 114 73 [some (.ref a), l1] [.ref a] w 0 Q) ∧
  (∀ (d : Nat) (l0 l1 : Option Value) (a : Nat) (w : px_H) (Q : Option Value → px_H → Prop), wp d 114 73 [l0, l1] [.ref a] w 0 Q ↔ px_op (px_fld w a [(10, 0)] 5) (fun v => wp d 114 76 [l0, l1] [v] w 0 Q)) ∧
  (∀ (d : Nat) (l0 l1 : Option Value) (a : Nat) (w : px_H) (Q : Option Value → px_H → Prop), wp d 114 76 [l0, l1] [.ref a] w 0 Q ↔ px_op (px_fld w a [(2, 0)] 4) (fun v => wp d 114 79 [l0, l1] [v] w 0 Q)) ∧
  (∀ (d : Nat) (l0 l1 : Option Value) (x : Int32) (w : px_H) (Q : Option Value → px_H → Prop), wp d 114 79 [l0, l1] [.int x] w 0 Q ↔ Q (some (.int x)) w) ∧
  (∀ (d : Nat) (l1 : Option Value) (a : Nat) (w : px_H) (Q : Option Value → px_H → Prop), wp d 114 80 [some (.ref a), l1] [] w 0 Q ↔ wp d 114 81 [some (.ref a), l1] [.ref a] w 0 Q) ∧
  (∀ (d : Nat) (l0 l1 : Option Value) (a : Nat) (w : px_H) (Q : Option Value → px_H → Prop), wp d 114 81 [l0, l1] [.ref a] w 0 Q ↔ px_op (px_fld w a [(10, 0)] 5) (fun v => wp d 114 84 [l0, l1] [v] w 0 Q)) ∧
  (∀ (d : Nat) (l0 : Option Value) (s0 : Value) (x : Int32) (w : px_H) (Q : Option Value → px_H → Prop), wp d 114 84 [l0, some (.int x)] [s0] w 0 Q ↔ wp d 114 85 [l0, some (.int x)] [.int x, s0] w 0 Q) ∧
  (∀ (d : Nat) (l0 l1 : Option Value) (v0 : Value) (b : Nat) (w : px_H) (Q : Option Value → px_H → Prop), wp (d + 1) 114 85 [l0, l1] [v0, .ref b] w 0 Q ↔ px_op (px_tgt w b [(2, 19)]) (fun v => wc d v [.ref b, v0] w (fun r w' => wp (d + 1) 114 88 [l0, l1] (r.toList ++ []) w' 0 Q))) ∧
  (∀ (d : Nat) (l0 l1 : Option Value) (x : Int32) (w : px_H) (Q : Option Value → px_H → Prop), wp d 114 88 [l0, l1] [.int x] w 0 Q ↔ Q (some (.int x)) w) := ⟨fun d v0 v1 w Q => r_entry pt_114 (Nat.le_of_ble_eq_true rfl) rfl,
  fun d l1 a w Q => px_go (q := (.aload_n 0, 1, px_x0)) (S' := (1, [some (.ref a), l1], [.ref a], w, 0)) pt_114 rfl rfl,
  fun d l0 l1 a w Q => px_goO (q := (.getfield 29, 3, (10, 3, [(10, 0)], 0, "AllSworn"))) (S' := fun v => (4, [l0, l1], [v], w, 0)) pt_114 rfl rfl,
  fun d l0 l1 b w Q => r_callV (q := (.invokevirtual 148, 3, (33, 0, [(5, 42)], 0, ""))) pt_114 rfl rfl (List.forall_mem_cons.mpr ⟨⟨_, pt_42, Nat.le_of_ble_eq_true rfl, (Nat.le_of_ble_eq_true rfl), rfl⟩, fun _ h => absurd h List.not_mem_nil⟩),
  fun d l0 l1 x w Q => r_if_ne pt_114 rfl rfl,
  fun d l0 l1 w Q => px_go (q := (.ldc 151, 2, (0, 0, [], (-1000002), ""))) (S' := (12, [l0, l1], [.int (-1000002)], w, 0)) pt_114 rfl rfl,
  fun d l0 l1 x w Q => px_ret (q := (.ireturn, 1, px_x0)) pt_114 rfl rfl,
  fun d l0 x w Q => px_go (q := (.iload_n 1, 1, px_x0)) (S' := (14, [l0, some (.int x)], [.int x], w, 0)) pt_114 rfl rfl,
  fun d l0 l1 s0 w Q => r_bipush pt_114 rfl (by decide),
  fun d l0 l1 x y w Q => r_icmp_lt pt_114 rfl rfl,
  fun d l0 x w Q => px_go (q := (.iload_n 1, 1, px_x0)) (S' := (20, [l0, some (.int x)], [.int x], w, 0)) pt_114 rfl rfl,
  fun d l0 l1 s0 w Q => r_iconst pt_114 rfl (by decide),
  fun d l0 l1 x y w Q => r_icmp_lt pt_114 rfl rfl,
  fun d l0 l1 w Q => px_go (q := (.ldc 62, 2, (0, 0, [], (-1000001), ""))) (S' := (26, [l0, l1], [.int (-1000001)], w, 0)) pt_114 rfl rfl,
  fun d l0 l1 x w Q => px_ret (q := (.ireturn, 1, px_x0)) pt_114 rfl rfl,
  fun d l1 a w Q => px_go (q := (.aload_n 0, 1, px_x0)) (S' := (28, [some (.ref a), l1], [.ref a], w, 0)) pt_114 rfl rfl,
  fun d l0 l1 a w Q => px_goO (q := (.getfield 39, 3, (10, 5, [(10, 0)], 0, "AllSworn"))) (S' := fun v => (31, [l0, l1], [v], w, 0)) pt_114 rfl rfl,
  fun d l1 s0 a w Q => px_go (q := (.aload_n 0, 1, px_x0)) (S' := (32, [some (.ref a), l1], [.ref a, s0], w, 0)) pt_114 rfl rfl,
  fun d l0 l1 s1 a w Q => px_goO (q := (.getfield 29, 3, (10, 3, [(10, 0)], 0, "AllSworn"))) (S' := fun v => (35, [l0, l1], [v, s1], w, 0)) pt_114 rfl rfl,
  fun d l0 l1 v0 b w Q => r_callV (q := (.invokevirtual 202, 3, (33, 1, [(2, 16)], 0, ""))) pt_114 rfl rfl (List.forall_mem_cons.mpr ⟨⟨_, pt_16, Nat.le_of_ble_eq_true rfl, (Nat.le_of_ble_eq_true rfl), rfl⟩, fun _ h => absurd h List.not_mem_nil⟩),
  fun d l0 x w Q => px_go (q := (.iload_n 1, 1, px_x0)) (S' := (39, [l0, some (.int x)], [.int x], w, 0)) pt_114 rfl rfl,
  fun d l0 l1 x w Q => r_lsw pt_114 rfl,
  fun d l1 a w Q => px_go (q := (.aload_n 0, 1, px_x0)) (S' := (65, [some (.ref a), l1], [.ref a], w, 0)) pt_114 rfl rfl,
  fun d l0 l1 a w Q => px_goO (q := (.getfield 39, 3, (10, 5, [(10, 0)], 0, "AllSworn"))) (S' := fun v => (68, [l0, l1], [v], w, 0)) pt_114 rfl rfl,
  fun d l0 l1 a w Q => px_goO (q := (.getfield 205, 3, (11, 3, [(2, 0)], 0, "AllSworn$Oracle"))) (S' := fun v => (71, [l0, l1], [v], w, 0)) pt_114 rfl rfl,
  fun d l0 l1 x w Q => px_ret (q := (.ireturn, 1, px_x0)) pt_114 rfl rfl,
  fun d l1 a w Q => px_go (q := (.aload_n 0, 1, px_x0)) (S' := (73, [some (.ref a), l1], [.ref a], w, 0)) pt_114 rfl rfl,
  fun d l0 l1 a w Q => px_goO (q := (.getfield 39, 3, (10, 5, [(10, 0)], 0, "AllSworn"))) (S' := fun v => (76, [l0, l1], [v], w, 0)) pt_114 rfl rfl,
  fun d l0 l1 a w Q => px_goO (q := (.getfield 208, 3, (11, 4, [(2, 0)], 0, "AllSworn$Oracle"))) (S' := fun v => (79, [l0, l1], [v], w, 0)) pt_114 rfl rfl,
  fun d l0 l1 x w Q => px_ret (q := (.ireturn, 1, px_x0)) pt_114 rfl rfl,
  fun d l1 a w Q => px_go (q := (.aload_n 0, 1, px_x0)) (S' := (81, [some (.ref a), l1], [.ref a], w, 0)) pt_114 rfl rfl,
  fun d l0 l1 a w Q => px_goO (q := (.getfield 39, 3, (10, 5, [(10, 0)], 0, "AllSworn"))) (S' := fun v => (84, [l0, l1], [v], w, 0)) pt_114 rfl rfl,
  fun d l0 s0 x w Q => px_go (q := (.iload_n 1, 1, px_x0)) (S' := (85, [l0, some (.int x)], [.int x, s0], w, 0)) pt_114 rfl rfl,
  fun d l0 l1 v0 b w Q => r_callV (q := (.invokevirtual 211, 3, (33, 1, [(2, 19)], 0, ""))) pt_114 rfl rfl (List.forall_mem_cons.mpr ⟨⟨_, pt_19, Nat.le_of_ble_eq_true rfl, (Nat.le_of_ble_eq_true rfl), rfl⟩, fun _ h => absurd h List.not_mem_nil⟩),
  fun d l0 l1 x w Q => px_ret (q := (.ireturn, 1, px_x0)) pt_114 rfl rfl⟩
/-- AllSworn.cheapest(II)I -/
theorem S115 : (∀ (d : Nat) (v0 v1 v2 : Value) (w : px_H) (Q : Option Value → px_H → Prop), wc d 115 [v0, v1, v2] w Q ↔ wp d 115 0 [some v0, some v1, some v2] [] w 0 Q) ∧
  (∀ (d : Nat) (l1 l2 : Option Value) (a : Nat) (w : px_H) (Q : Option Value → px_H → Prop), wp d 115 0 [some (.ref a), l1, l2] [] w 0 Q ↔ wp d 115 1 [some (.ref a), l1, l2] [.ref a] w 0 Q) ∧
  (∀ (d : Nat) (l0 l1 l2 : Option Value) (a : Nat) (w : px_H) (Q : Option Value → px_H → Prop), wp d 115 1 [l0, l1, l2] [.ref a] w 0 Q ↔ px_op (px_fld w a [(10, 0)] 3) (fun v => wp d 115 4 [l0, l1, l2] [v] w 0 Q)) ∧
  (∀ (d : Nat) (l0 l1 l2 : Option Value)  (b : Nat) (w : px_H) (Q : Option Value → px_H → Prop), wp (d + 1) 115 4 [l0, l1, l2] [.ref b] w 0 Q ↔ px_op (px_tgt w b [(5, 42)]) (fun v => wc d v [.ref b] w (fun r w' => wp (d + 1) 115 7 [l0, l1, l2] (r.toList ++ []) w' 0 Q))) ∧
  (∀ (d : Nat) (l0 l1 l2 : Option Value) (x : Int32) (w : px_H) (Q : Option Value → px_H → Prop), wp d 115 7 [l0, l1, l2] [.int x] w 0 Q ↔ if x = 0 then wp d 115 10 [l0, l1, l2] [] w 0 Q else wp d 115 13 [l0, l1, l2] [] w 0 Q) ∧
  (∀ (d : Nat) (l0 l1 l2 : Option Value)  (w : px_H) (Q : Option Value → px_H → Prop), wp d 115 10 [l0, l1, l2] [] w 0 Q ↔ wp d 115 12 [l0, l1, l2] [.int (-1000002)] w 0 Q) ∧
  (∀ (d : Nat) (l0 l1 l2 : Option Value) (x : Int32) (w : px_H) (Q : Option Value → px_H → Prop), wp d 115 12 [l0, l1, l2] [.int x] w 0 Q ↔ Q (some (.int x)) w) ∧
  (∀ (d : Nat) (l1 l2 : Option Value) (a : Nat) (w : px_H) (Q : Option Value → px_H → Prop), wp d 115 13 [some (.ref a), l1, l2] [] w 0 Q ↔ wp d 115 14 [some (.ref a), l1, l2] [.ref a] w 0 Q) ∧
  (∀ (d : Nat) (l0 l2 : Option Value) (s0 : Value) (x : Int32) (w : px_H) (Q : Option Value → px_H → Prop), wp d 115 14 [l0, some (.int x), l2] [s0] w 0 Q ↔ wp d 115 15 [l0, some (.int x), l2] [.int x, s0] w 0 Q) ∧
  (∀ (d : Nat) (l0 l1 l2 : Option Value) (v0 : Value) (b : Nat) (w : px_H) (Q : Option Value → px_H → Prop), wp (d + 1) 115 15 [l0, l1, l2] [v0, .ref b] w 0 Q ↔ px_op (px_tgt w b [(10, 134)]) (fun v => wc d v [.ref b, v0] w (fun r w' => wp (d + 1) 115 18 [l0, l1, l2] (r.toList ++ []) w' 0 Q))) ∧
  (∀ (d : Nat) (l0 l1 l2 : Option Value) (x : Int32) (w : px_H) (Q : Option Value → px_H → Prop), wp d 115 18 [l0, l1, l2] [.int x] w 0 Q ↔ if x = 0 then wp d 115 28 [l0, l1, l2] [] w 0 Q else wp d 115 21 [l0, l1, l2] [] w 0 Q) ∧
  (∀ (d : Nat) (l0 l1 : Option Value) (x : Int32) (w : px_H) (Q : Option Value → px_H → Prop), wp d 115 21 [l0, l1, some (.int x)] [] w 0 Q ↔ wp d 115 22 [l0, l1, some (.int x)] [.int x] w 0 Q) ∧
  (∀ (d : Nat) (l0 l1 l2 : Option Value) (v0 : Value) (w : px_H) (Q : Option Value → px_H → Prop), wp (d + 1) 115 22 [l0, l1, l2] [v0] w 0 Q ↔ wc d 135 [v0] w (fun r w' => wp (d + 1) 115 25 [l0, l1, l2] (r.toList ++ []) w' 0 Q)) ∧
  (∀ (d : Nat) (l0 l1 l2 : Option Value) (x : Int32) (w : px_H) (Q : Option Value → px_H → Prop), wp d 115 25 [l0, l1, l2] [.int x] w 0 Q ↔ if x = 0 then wp d 115 28 [l0, l1, l2] [] w 0 Q else wp d 115 31 [l0, l1, l2] [] w 0 Q) ∧
  (∀ (d : Nat) (l0 l1 l2 : Option Value)  (w : px_H) (Q : Option Value → px_H → Prop), wp d 115 28 [l0, l1, l2] [] w 0 Q ↔ wp d 115 30 [l0, l1, l2] [.int (-1000001)] w 0 Q) ∧
  (∀ (d : Nat) (l0 l1 l2 : Option Value) (x : Int32) (w : px_H) (Q : Option Value → px_H → Prop), wp d 115 30 [l0, l1, l2] [.int x] w 0 Q ↔ Q (some (.int x)) w) ∧
  (∀ (d : Nat) (l0 l1 : Option Value) (x : Int32) (w : px_H) (Q : Option Value → px_H → Prop), wp d 115 31 [l0, l1, some (.int x)] [] w 0 Q ↔ wp d 115 32 [l0, l1, some (.int x)] [.int x] w 0 Q) ∧
  (∀ (d : Nat) (l0 l1 l2 : Option Value) (x : Int32) (w : px_H) (Q : Option Value → px_H → Prop), wp d 115 32 [l0, l1, l2] [.int x] w 0 Q ↔ if x = 0 then wp d 115 35 [l0, l1, l2] [] w 0 Q else wp d 115 46 [l0, l1, l2] [] w 0 Q) ∧
  (∀ (d : Nat) (l1 l2 : Option Value) (a : Nat) (w : px_H) (Q : Option Value → px_H → Prop), wp d 115 35 [some (.ref a), l1, l2] [] w 0 Q ↔ wp d 115 36 [some (.ref a), l1, l2] [.ref a] w 0 Q) ∧
  (∀ (d : Nat) (l0 l1 l2 : Option Value) (a : Nat) (w : px_H) (Q : Option Value → px_H → Prop), wp d 115 36 [l0, l1, l2] [.ref a] w 0 Q ↔ px_op (px_fld w a [(10, 0)] 3) (fun v => wp d 115 39 [l0, l1, l2] [v] w 0 Q)) ∧
  (∀ (d : Nat) (l0 l2 : Option Value) (s0 : Value) (x : Int32) (w : px_H) (Q : Option Value → px_H → Prop), wp d 115 39 [l0, some (.int x), l2] [s0] w 0 Q ↔ wp d 115 40 [l0, some (.int x), l2] [.int x, s0] w 0 Q) ∧
  (∀ (d : Nat) (l0 l1 l2 : Option Value) (v0 : Value) (b : Nat) (w : px_H) (Q : Option Value → px_H → Prop), wp (d + 1) 115 40 [l0, l1, l2] [v0, .ref b] w 0 Q ↔ px_op (px_tgt w b [(5, 62)]) (fun v => wc d v [.ref b, v0] w (fun r w' => wp (d + 1) 115 43 [l0, l1, l2] (r.toList ++ []) w' 0 Q))) ∧
  (∀ (d : Nat) (l0 l1 l2 : Option Value) (s0 : Value)  (w : px_H) (Q : Option Value → px_H → Prop), wp d 115 43 [l0, l1, l2] [s0] w 0 Q ↔ wp d 115 54 [l0, l1, l2] [s0] w 0 Q) ∧
  (∀ (d : Nat) (l1 l2 : Option Value) (a : Nat) (w : px_H) (Q : Option Value → px_H → Prop), wp d 115 46 [some (.ref a), l1, l2] [] w 0 Q ↔ wp d 115 47 [some (.ref a), l1, l2] [.ref a] w 0 Q) ∧
  (∀ (d : Nat) (l0 l1 l2 : Option Value) (a : Nat) (w : px_H) (Q : Option Value → px_H → Prop), wp d 115 47 [l0, l1, l2] [.ref a] w 0 Q ↔ px_op (px_fld w a [(10, 0)] 3) (fun v => wp d 115 50 [l0, l1, l2] [v] w 0 Q)) ∧
  (∀ (d : Nat) (l0 l2 : Option Value) (s0 : Value) (x : Int32) (w : px_H) (Q : Option Value → px_H → Prop), wp d 115 50 [l0, some (.int x), l2] [s0] w 0 Q ↔ wp d 115 51 [l0, some (.int x), l2] [.int x, s0] w 0 Q) ∧
  (∀ (d : Nat) (l0 l1 l2 : Option Value) (v0 : Value) (b : Nat) (w : px_H) (Q : Option Value → px_H → Prop), wp (d + 1) 115 51 [l0, l1, l2] [v0, .ref b] w 0 Q ↔ px_op (px_tgt w b [(5, 63)]) (fun v => wc d v [.ref b, v0] w (fun r w' => wp (d + 1) 115 54 [l0, l1, l2] (r.toList ++ []) w' 0 Q))) ∧
  (∀ (d : Nat) (l0 l1 l2 : Option Value) (x : Int32) (w : px_H) (Q : Option Value → px_H → Prop), wp d 115 54 [l0, l1, l2] [.int x] w 0 Q ↔ Q (some (.int x)) w) := ⟨fun d v0 v1 v2 w Q => r_entry pt_115 (Nat.le_of_ble_eq_true rfl) rfl,
  fun d l1 l2 a w Q => px_go (q := (.aload_n 0, 1, px_x0)) (S' := (1, [some (.ref a), l1, l2], [.ref a], w, 0)) pt_115 rfl rfl,
  fun d l0 l1 l2 a w Q => px_goO (q := (.getfield 29, 3, (10, 3, [(10, 0)], 0, "AllSworn"))) (S' := fun v => (4, [l0, l1, l2], [v], w, 0)) pt_115 rfl rfl,
  fun d l0 l1 l2 b w Q => r_callV (q := (.invokevirtual 148, 3, (33, 0, [(5, 42)], 0, ""))) pt_115 rfl rfl (List.forall_mem_cons.mpr ⟨⟨_, pt_42, Nat.le_of_ble_eq_true rfl, (Nat.le_of_ble_eq_true rfl), rfl⟩, fun _ h => absurd h List.not_mem_nil⟩),
  fun d l0 l1 l2 x w Q => r_if_ne pt_115 rfl rfl,
  fun d l0 l1 l2 w Q => px_go (q := (.ldc 151, 2, (0, 0, [], (-1000002), ""))) (S' := (12, [l0, l1, l2], [.int (-1000002)], w, 0)) pt_115 rfl rfl,
  fun d l0 l1 l2 x w Q => px_ret (q := (.ireturn, 1, px_x0)) pt_115 rfl rfl,
  fun d l1 l2 a w Q => px_go (q := (.aload_n 0, 1, px_x0)) (S' := (14, [some (.ref a), l1, l2], [.ref a], w, 0)) pt_115 rfl rfl,
  fun d l0 l2 s0 x w Q => px_go (q := (.iload_n 1, 1, px_x0)) (S' := (15, [l0, some (.int x), l2], [.int x, s0], w, 0)) pt_115 rfl rfl,
  fun d l0 l1 l2 v0 b w Q => r_callV (q := (.invokevirtual 183, 3, (33, 1, [(10, 134)], 0, ""))) pt_115 rfl rfl (List.forall_mem_cons.mpr ⟨⟨_, pt_134, Nat.le_of_ble_eq_true rfl, (Nat.le_of_ble_eq_true rfl), rfl⟩, fun _ h => absurd h List.not_mem_nil⟩),
  fun d l0 l1 l2 x w Q => r_if_eq pt_115 rfl rfl,
  fun d l0 l1 x w Q => px_go (q := (.iload_n 2, 1, px_x0)) (S' := (22, [l0, l1, some (.int x)], [.int x], w, 0)) pt_115 rfl rfl,
  fun d l0 l1 l2 v0 w Q => r_call (q := (.invokestatic 193, 3, (30, 1, [(0, 135)], 0, ""))) pt_115 rfl rfl pt_135 (Nat.le_of_ble_eq_true rfl) (Nat.le_of_ble_eq_true rfl) rfl,
  fun d l0 l1 l2 x w Q => r_if_ne pt_115 rfl rfl,
  fun d l0 l1 l2 w Q => px_go (q := (.ldc 62, 2, (0, 0, [], (-1000001), ""))) (S' := (30, [l0, l1, l2], [.int (-1000001)], w, 0)) pt_115 rfl rfl,
  fun d l0 l1 l2 x w Q => px_ret (q := (.ireturn, 1, px_x0)) pt_115 rfl rfl,
  fun d l0 l1 x w Q => px_go (q := (.iload_n 2, 1, px_x0)) (S' := (32, [l0, l1, some (.int x)], [.int x], w, 0)) pt_115 rfl rfl,
  fun d l0 l1 l2 x w Q => r_if_ne pt_115 rfl rfl,
  fun d l1 l2 a w Q => px_go (q := (.aload_n 0, 1, px_x0)) (S' := (36, [some (.ref a), l1, l2], [.ref a], w, 0)) pt_115 rfl rfl,
  fun d l0 l1 l2 a w Q => px_goO (q := (.getfield 29, 3, (10, 3, [(10, 0)], 0, "AllSworn"))) (S' := fun v => (39, [l0, l1, l2], [v], w, 0)) pt_115 rfl rfl,
  fun d l0 l2 s0 x w Q => px_go (q := (.iload_n 1, 1, px_x0)) (S' := (40, [l0, some (.int x), l2], [.int x, s0], w, 0)) pt_115 rfl rfl,
  fun d l0 l1 l2 v0 b w Q => r_callV (q := (.invokevirtual 214, 3, (33, 1, [(5, 62)], 0, ""))) pt_115 rfl rfl (List.forall_mem_cons.mpr ⟨⟨_, pt_62, Nat.le_of_ble_eq_true rfl, (Nat.le_of_ble_eq_true rfl), rfl⟩, fun _ h => absurd h List.not_mem_nil⟩),
  fun d l0 l1 l2 s0 w Q => r_goto pt_115 rfl rfl,
  fun d l1 l2 a w Q => px_go (q := (.aload_n 0, 1, px_x0)) (S' := (47, [some (.ref a), l1, l2], [.ref a], w, 0)) pt_115 rfl rfl,
  fun d l0 l1 l2 a w Q => px_goO (q := (.getfield 29, 3, (10, 3, [(10, 0)], 0, "AllSworn"))) (S' := fun v => (50, [l0, l1, l2], [v], w, 0)) pt_115 rfl rfl,
  fun d l0 l2 s0 x w Q => px_go (q := (.iload_n 1, 1, px_x0)) (S' := (51, [l0, some (.int x), l2], [.int x, s0], w, 0)) pt_115 rfl rfl,
  fun d l0 l1 l2 v0 b w Q => r_callV (q := (.invokevirtual 217, 3, (33, 1, [(5, 63)], 0, ""))) pt_115 rfl rfl (List.forall_mem_cons.mpr ⟨⟨_, pt_63, Nat.le_of_ble_eq_true rfl, (Nat.le_of_ble_eq_true rfl), rfl⟩, fun _ h => absurd h List.not_mem_nil⟩),
  fun d l0 l1 l2 x w Q => px_ret (q := (.ireturn, 1, px_x0)) pt_115 rfl rfl⟩
/-- AllSworn.defended(II)I -/
theorem S116 : (∀ (d : Nat) (v0 v1 v2 : Value) (w : px_H) (Q : Option Value → px_H → Prop), wc d 116 [v0, v1, v2] w Q ↔ wp d 116 0 [some v0, some v1, some v2, none] [] w 0 Q) ∧
  (∀ (d : Nat) (l1 l2 l3 : Option Value) (a : Nat) (w : px_H) (Q : Option Value → px_H → Prop), wp d 116 0 [some (.ref a), l1, l2, l3] [] w 0 Q ↔ wp d 116 1 [some (.ref a), l1, l2, l3] [.ref a] w 0 Q) ∧
  (∀ (d : Nat) (l0 l1 l2 l3 : Option Value) (a : Nat) (w : px_H) (Q : Option Value → px_H → Prop), wp d 116 1 [l0, l1, l2, l3] [.ref a] w 0 Q ↔ px_op (px_fld w a [(10, 0)] 3) (fun v => wp d 116 4 [l0, l1, l2, l3] [v] w 0 Q)) ∧
  (∀ (d : Nat) (l0 l1 l2 l3 : Option Value)  (b : Nat) (w : px_H) (Q : Option Value → px_H → Prop), wp (d + 1) 116 4 [l0, l1, l2, l3] [.ref b] w 0 Q ↔ px_op (px_tgt w b [(5, 42)]) (fun v => wc d v [.ref b] w (fun r w' => wp (d + 1) 116 7 [l0, l1, l2, l3] (r.toList ++ []) w' 0 Q))) ∧
  (∀ (d : Nat) (l0 l1 l2 l3 : Option Value) (x : Int32) (w : px_H) (Q : Option Value → px_H → Prop), wp d 116 7 [l0, l1, l2, l3] [.int x] w 0 Q ↔ if x = 0 then wp d 116 10 [l0, l1, l2, l3] [] w 0 Q else wp d 116 13 [l0, l1, l2, l3] [] w 0 Q) ∧
  (∀ (d : Nat) (l0 l1 l2 l3 : Option Value)  (w : px_H) (Q : Option Value → px_H → Prop), wp d 116 10 [l0, l1, l2, l3] [] w 0 Q ↔ wp d 116 12 [l0, l1, l2, l3] [.int (-1000002)] w 0 Q) ∧
  (∀ (d : Nat) (l0 l1 l2 l3 : Option Value) (x : Int32) (w : px_H) (Q : Option Value → px_H → Prop), wp d 116 12 [l0, l1, l2, l3] [.int x] w 0 Q ↔ Q (some (.int x)) w) ∧
  (∀ (d : Nat) (l1 l2 l3 : Option Value) (a : Nat) (w : px_H) (Q : Option Value → px_H → Prop), wp d 116 13 [some (.ref a), l1, l2, l3] [] w 0 Q ↔ wp d 116 14 [some (.ref a), l1, l2, l3] [.ref a] w 0 Q) ∧
  (∀ (d : Nat) (l0 l2 l3 : Option Value) (s0 : Value) (x : Int32) (w : px_H) (Q : Option Value → px_H → Prop), wp d 116 14 [l0, some (.int x), l2, l3] [s0] w 0 Q ↔ wp d 116 15 [l0, some (.int x), l2, l3] [.int x, s0] w 0 Q) ∧
  (∀ (d : Nat) (l0 l1 l2 l3 : Option Value) (v0 : Value) (b : Nat) (w : px_H) (Q : Option Value → px_H → Prop), wp (d + 1) 116 15 [l0, l1, l2, l3] [v0, .ref b] w 0 Q ↔ px_op (px_tgt w b [(10, 134)]) (fun v => wc d v [.ref b, v0] w (fun r w' => wp (d + 1) 116 18 [l0, l1, l2, l3] (r.toList ++ []) w' 0 Q))) ∧
  (∀ (d : Nat) (l0 l1 l2 l3 : Option Value) (x : Int32) (w : px_H) (Q : Option Value → px_H → Prop), wp d 116 18 [l0, l1, l2, l3] [.int x] w 0 Q ↔ if x = 0 then wp d 116 28 [l0, l1, l2, l3] [] w 0 Q else wp d 116 21 [l0, l1, l2, l3] [] w 0 Q) ∧
  (∀ (d : Nat) (l0 l1 l3 : Option Value) (x : Int32) (w : px_H) (Q : Option Value → px_H → Prop), wp d 116 21 [l0, l1, some (.int x), l3] [] w 0 Q ↔ wp d 116 22 [l0, l1, some (.int x), l3] [.int x] w 0 Q) ∧
  (∀ (d : Nat) (l0 l1 l2 l3 : Option Value) (v0 : Value) (w : px_H) (Q : Option Value → px_H → Prop), wp (d + 1) 116 22 [l0, l1, l2, l3] [v0] w 0 Q ↔ wc d 135 [v0] w (fun r w' => wp (d + 1) 116 25 [l0, l1, l2, l3] (r.toList ++ []) w' 0 Q)) ∧
  (∀ (d : Nat) (l0 l1 l2 l3 : Option Value) (x : Int32) (w : px_H) (Q : Option Value → px_H → Prop), wp d 116 25 [l0, l1, l2, l3] [.int x] w 0 Q ↔ if x = 0 then wp d 116 28 [l0, l1, l2, l3] [] w 0 Q else wp d 116 31 [l0, l1, l2, l3] [] w 0 Q) ∧
  (∀ (d : Nat) (l0 l1 l2 l3 : Option Value)  (w : px_H) (Q : Option Value → px_H → Prop), wp d 116 28 [l0, l1, l2, l3] [] w 0 Q ↔ wp d 116 30 [l0, l1, l2, l3] [.int (-1000001)] w 0 Q) ∧
  (∀ (d : Nat) (l0 l1 l2 l3 : Option Value) (x : Int32) (w : px_H) (Q : Option Value → px_H → Prop), wp d 116 30 [l0, l1, l2, l3] [.int x] w 0 Q ↔ Q (some (.int x)) w) ∧
  (∀ (d : Nat) (l1 l2 l3 : Option Value) (a : Nat) (w : px_H) (Q : Option Value → px_H → Prop), wp d 116 31 [some (.ref a), l1, l2, l3] [] w 0 Q ↔ wp d 116 32 [some (.ref a), l1, l2, l3] [.ref a] w 0 Q) ∧
  (∀ (d : Nat) (l0 l1 l2 l3 : Option Value) (a : Nat) (w : px_H) (Q : Option Value → px_H → Prop), wp d 116 32 [l0, l1, l2, l3] [.ref a] w 0 Q ↔ px_op (px_fld w a [(10, 0)] 5) (fun v => wp d 116 35 [l0, l1, l2, l3] [v] w 0 Q)) ∧
  (∀ (d : Nat) (l1 l2 l3 : Option Value) (s0 : Value) (a : Nat) (w : px_H) (Q : Option Value → px_H → Prop), wp d 116 35 [some (.ref a), l1, l2, l3] [s0] w 0 Q ↔ wp d 116 36 [some (.ref a), l1, l2, l3] [.ref a, s0] w 0 Q) ∧
  (∀ (d : Nat) (l0 l1 l2 l3 : Option Value) (s1 : Value) (a : Nat) (w : px_H) (Q : Option Value → px_H → Prop), wp d 116 36 [l0, l1, l2, l3] [.ref a, s1] w 0 Q ↔ px_op (px_fld w a [(10, 0)] 3) (fun v => wp d 116 39 [l0, l1, l2, l3] [v, s1] w 0 Q)) ∧
  (∀ (d : Nat) (l0 l2 l3 : Option Value) (s0 s1 : Value) (x : Int32) (w : px_H) (Q : Option Value → px_H → Prop), wp d 116 39 [l0, some (.int x), l2, l3] [s0, s1] w 0 Q ↔ wp d 116 40 [l0, some (.int x), l2, l3] [.int x, s0, s1] w 0 Q) ∧
  (∀ (d : Nat) (l0 l1 l2 l3 : Option Value) (v0 v1 : Value) (b : Nat) (w : px_H) (Q : Option Value → px_H → Prop), wp (d + 1) 116 40 [l0, l1, l2, l3] [v1, v0, .ref b] w 0 Q ↔ px_op (px_tgt w b [(2, 20)]) (fun v => wc d v [.ref b, v0, v1] w (fun r w' => wp (d + 1) 116 43 [l0, l1, l2, l3] (r.toList ++ []) w' 0 Q))) ∧
  (∀ (d : Nat) (l0 l1 l2 l3 : Option Value) (x : Int32) (w : px_H) (Q : Option Value → px_H → Prop), wp d 116 43 [l0, l1, l2, l3] [.int x] w 0 Q ↔ wp d 116 44 [l0, l1, l2, some (.int x)] [] w 0 Q) ∧
  (∀ (d : Nat) (l0 l1 l3 : Option Value) (x : Int32) (w : px_H) (Q : Option Value → px_H → Prop), wp d 116 44 [l0, l1, some (.int x), l3] [] w 0 Q ↔ wp d 116 45 [l0, l1, some (.int x), l3] [.int x] w 0 Q) ∧
  (∀ (d : Nat) (l0 l1 l2 l3 : Option Value) (x : Int32) (w : px_H) (Q : Option Value → px_H → Prop), wp d 116 45 [l0, l1, l2, l3] [.int x] w 0 Q ↔ if x = 0 then wp d 116 48 [l0, l1, l2, l3] [] w 0 Q else wp d 116 52 [l0, l1, l2, l3] [] w 0 Q) ∧
  (∀ (d : Nat) (l0 l1 l2 : Option Value) (x : Int32) (w : px_H) (Q : Option Value → px_H → Prop), wp d 116 48 [l0, l1, l2, some (.int x)] [] w 0 Q ↔ wp d 116 49 [l0, l1, l2, some (.int x)] [.int x] w 0 Q) ∧
  (∀ (d : Nat) (l0 l1 l2 l3 : Option Value) (s0 : Value)  (w : px_H) (Q : Option Value → px_H → Prop), wp d 116 49 [l0, l1, l2, l3] [s0] w 0 Q ↔ wp d 116 72 [l0, l1, l2, l3] [s0] w 0 Q) ∧
  (∀ (d : Nat) (l1 l2 l3 : Option Value) (a : Nat) (w : px_H) (Q : Option Value → px_H → Prop), wp d 116 52 [some (.ref a), l1, l2, l3] [] w 0 Q ↔ wp d 116 53 [some (.ref a), l1, l2, l3] [.ref a] w 0 Q) ∧
  (∀ (d : Nat) (l0 l1 l2 l3 : Option Value) (a : Nat) (w : px_H) (Q : Option Value → px_H → Prop), wp d 116 53 [l0, l1, l2, l3] [.ref a] w 0 Q ↔ px_op (px_fld w a [(10, 0)] 5) (fun v => wp d 116 56 [l0, l1, l2, l3] [v] w 0 Q)) ∧
  (∀ (d : Nat) (l1 l2 l3 : Option Value) (s0 : Value) (a : Nat) (w : px_H) (Q : Option Value → px_H → Prop), wp d 116 56 [some (.ref a), l1, l2, l3] [s0] w 0 Q ↔ wp d 116 57 [some (.ref a), l1, l2, l3] [.ref a, s0] w 0 Q) ∧
  (∀ (d : Nat) (l0 l1 l2 l3 : Option Value) (s1 : Value) (a : Nat) (w : px_H) (Q : Option Value → px_H → Prop), wp d 116 57 [l0, l1, l2, l3] [.ref a, s1] w 0 Q ↔ px_op (px_fld w a [(10, 0)] 3) (fun v => wp d 116 60 [l0, l1, l2, l3] [v, s1] w 0 Q)) ∧
  (∀ (d : Nat) (l1 l2 l3 : Option Value) (s0 s1 : Value) (a : Nat) (w : px_H) (Q : Option Value → px_H → Prop), wp d 116 60 [some (.ref a), l1, l2, l3] [s0, s1] w 0 Q ↔ wp d 116 61 [some (.ref a), l1, l2, l3] [.ref a, s0, s1] w 0 Q) ∧
  (∀ (d : Nat) (l0 l1 l2 l3 : Option Value) (s1 s2 : Value) (a : Nat) (w : px_H) (Q : Option Value → px_H → Prop), wp d 116 61 [l0, l1, l2, l3] [.ref a, s1, s2] w 0 Q ↔ px_op (px_fld w a [(10, 0)] 3) (fun v => wp d 116 64 [l0, l1, l2, l3] [v, s1, s2] w 0 Q)) ∧
  (∀ (d : Nat) (l0 l1 l2 : Option Value) (s0 s1 s2 : Value) (x : Int32) (w : px_H) (Q : Option Value → px_H → Prop), wp d 116 64 [l0, l1, l2, some (.int x)] [s0, s1, s2] w 0 Q ↔ wp d 116 65 [l0, l1, l2, some (.int x)] [.int x, s0, s1, s2] w 0 Q) ∧
  (∀ (d : Nat) (l0 l1 l2 l3 : Option Value) (s2 s3 : Value) (v0 : Value) (b : Nat) (w : px_H) (Q : Option Value → px_H → Prop), wp (d + 1) 116 65 [l0, l1, l2, l3] [v0, .ref b, s2, s3] w 0 Q ↔ px_op (px_tgt w b [(5, 47)]) (fun v => wc d v [.ref b, v0] w (fun r w' => wp (d + 1) 116 68 [l0, l1, l2, l3] (r.toList ++ [s2, s3]) w' 0 Q))) ∧
  (∀ (d : Nat) (l0 l2 l3 : Option Value) (s0 s1 s2 : Value) (x : Int32) (w : px_H) (Q : Option Value → px_H → Prop), wp d 116 68 [l0, some (.int x), l2, l3] [s0, s1, s2] w 0 Q ↔ wp d 116 69 [l0, some (.int x), l2, l3] [.int x, s0, s1, s2] w 0 Q) ∧
  (∀ (d : Nat) (l0 l1 l2 l3 : Option Value) (v0 v1 v2 : Value) (b : Nat) (w : px_H) (Q : Option Value → px_H → Prop), wp (d + 1) 116 69 [l0, l1, l2, l3] [v2, v1, v0, .ref b] w 0 Q ↔ px_op (px_tgt w b [(2, 21)]) (fun v => wc d v [.ref b, v0, v1, v2] w (fun r w' => wp (d + 1) 116 72 [l0, l1, l2, l3] (r.toList ++ []) w' 0 Q))) ∧
  (∀ (d : Nat) (l0 l1 l2 l3 : Option Value) (x : Int32) (w : px_H) (Q : Option Value → px_H → Prop), wp d 116 72 [l0, l1, l2, l3] [.int x] w 0 Q ↔ Q (some (.int x)) w) := ⟨fun d v0 v1 v2 w Q => r_entry pt_116 (Nat.le_of_ble_eq_true rfl) rfl,
  fun d l1 l2 l3 a w Q => px_go (q := (.aload_n 0, 1, px_x0)) (S' := (1, [some (.ref a), l1, l2, l3], [.ref a], w, 0)) pt_116 rfl rfl,
  fun d l0 l1 l2 l3 a w Q => px_goO (q := (.getfield 29, 3, (10, 3, [(10, 0)], 0, "AllSworn"))) (S' := fun v => (4, [l0, l1, l2, l3], [v], w, 0)) pt_116 rfl rfl,
  fun d l0 l1 l2 l3 b w Q => r_callV (q := (.invokevirtual 148, 3, (33, 0, [(5, 42)], 0, ""))) pt_116 rfl rfl (List.forall_mem_cons.mpr ⟨⟨_, pt_42, Nat.le_of_ble_eq_true rfl, (Nat.le_of_ble_eq_true rfl), rfl⟩, fun _ h => absurd h List.not_mem_nil⟩),
  fun d l0 l1 l2 l3 x w Q => r_if_ne pt_116 rfl rfl,
  fun d l0 l1 l2 l3 w Q => px_go (q := (.ldc 151, 2, (0, 0, [], (-1000002), ""))) (S' := (12, [l0, l1, l2, l3], [.int (-1000002)], w, 0)) pt_116 rfl rfl,
  fun d l0 l1 l2 l3 x w Q => px_ret (q := (.ireturn, 1, px_x0)) pt_116 rfl rfl,
  fun d l1 l2 l3 a w Q => px_go (q := (.aload_n 0, 1, px_x0)) (S' := (14, [some (.ref a), l1, l2, l3], [.ref a], w, 0)) pt_116 rfl rfl,
  fun d l0 l2 l3 s0 x w Q => px_go (q := (.iload_n 1, 1, px_x0)) (S' := (15, [l0, some (.int x), l2, l3], [.int x, s0], w, 0)) pt_116 rfl rfl,
  fun d l0 l1 l2 l3 v0 b w Q => r_callV (q := (.invokevirtual 183, 3, (33, 1, [(10, 134)], 0, ""))) pt_116 rfl rfl (List.forall_mem_cons.mpr ⟨⟨_, pt_134, Nat.le_of_ble_eq_true rfl, (Nat.le_of_ble_eq_true rfl), rfl⟩, fun _ h => absurd h List.not_mem_nil⟩),
  fun d l0 l1 l2 l3 x w Q => r_if_eq pt_116 rfl rfl,
  fun d l0 l1 l3 x w Q => px_go (q := (.iload_n 2, 1, px_x0)) (S' := (22, [l0, l1, some (.int x), l3], [.int x], w, 0)) pt_116 rfl rfl,
  fun d l0 l1 l2 l3 v0 w Q => r_call (q := (.invokestatic 193, 3, (30, 1, [(0, 135)], 0, ""))) pt_116 rfl rfl pt_135 (Nat.le_of_ble_eq_true rfl) (Nat.le_of_ble_eq_true rfl) rfl,
  fun d l0 l1 l2 l3 x w Q => r_if_ne pt_116 rfl rfl,
  fun d l0 l1 l2 l3 w Q => px_go (q := (.ldc 62, 2, (0, 0, [], (-1000001), ""))) (S' := (30, [l0, l1, l2, l3], [.int (-1000001)], w, 0)) pt_116 rfl rfl,
  fun d l0 l1 l2 l3 x w Q => px_ret (q := (.ireturn, 1, px_x0)) pt_116 rfl rfl,
  fun d l1 l2 l3 a w Q => px_go (q := (.aload_n 0, 1, px_x0)) (S' := (32, [some (.ref a), l1, l2, l3], [.ref a], w, 0)) pt_116 rfl rfl,
  fun d l0 l1 l2 l3 a w Q => px_goO (q := (.getfield 39, 3, (10, 5, [(10, 0)], 0, "AllSworn"))) (S' := fun v => (35, [l0, l1, l2, l3], [v], w, 0)) pt_116 rfl rfl,
  fun d l1 l2 l3 s0 a w Q => px_go (q := (.aload_n 0, 1, px_x0)) (S' := (36, [some (.ref a), l1, l2, l3], [.ref a, s0], w, 0)) pt_116 rfl rfl,
  fun d l0 l1 l2 l3 s1 a w Q => px_goO (q := (.getfield 29, 3, (10, 3, [(10, 0)], 0, "AllSworn"))) (S' := fun v => (39, [l0, l1, l2, l3], [v, s1], w, 0)) pt_116 rfl rfl,
  fun d l0 l2 l3 s0 s1 x w Q => px_go (q := (.iload_n 1, 1, px_x0)) (S' := (40, [l0, some (.int x), l2, l3], [.int x, s0, s1], w, 0)) pt_116 rfl rfl,
  fun d l0 l1 l2 l3 v0 v1 b w Q => r_callV (q := (.invokevirtual 220, 3, (33, 2, [(2, 20)], 0, ""))) pt_116 rfl rfl (List.forall_mem_cons.mpr ⟨⟨_, pt_20, Nat.le_of_ble_eq_true rfl, (Nat.le_of_ble_eq_true rfl), rfl⟩, fun _ h => absurd h List.not_mem_nil⟩),
  fun d l0 l1 l2 l3 x w Q => px_go (q := (.istore_n 3, 1, px_x0)) (S' := (44, [l0, l1, l2, some (.int x)], [], w, 0)) pt_116 rfl rfl,
  fun d l0 l1 l3 x w Q => px_go (q := (.iload_n 2, 1, px_x0)) (S' := (45, [l0, l1, some (.int x), l3], [.int x], w, 0)) pt_116 rfl rfl,
  fun d l0 l1 l2 l3 x w Q => r_if_ne pt_116 rfl rfl,
  fun d l0 l1 l2 x w Q => px_go (q := (.iload_n 3, 1, px_x0)) (S' := (49, [l0, l1, l2, some (.int x)], [.int x], w, 0)) pt_116 rfl rfl,
  fun d l0 l1 l2 l3 s0 w Q => r_goto pt_116 rfl rfl,
  fun d l1 l2 l3 a w Q => px_go (q := (.aload_n 0, 1, px_x0)) (S' := (53, [some (.ref a), l1, l2, l3], [.ref a], w, 0)) pt_116 rfl rfl,
  fun d l0 l1 l2 l3 a w Q => px_goO (q := (.getfield 39, 3, (10, 5, [(10, 0)], 0, "AllSworn"))) (S' := fun v => (56, [l0, l1, l2, l3], [v], w, 0)) pt_116 rfl rfl,
  fun d l1 l2 l3 s0 a w Q => px_go (q := (.aload_n 0, 1, px_x0)) (S' := (57, [some (.ref a), l1, l2, l3], [.ref a, s0], w, 0)) pt_116 rfl rfl,
  fun d l0 l1 l2 l3 s1 a w Q => px_goO (q := (.getfield 29, 3, (10, 3, [(10, 0)], 0, "AllSworn"))) (S' := fun v => (60, [l0, l1, l2, l3], [v, s1], w, 0)) pt_116 rfl rfl,
  fun d l1 l2 l3 s0 s1 a w Q => px_go (q := (.aload_n 0, 1, px_x0)) (S' := (61, [some (.ref a), l1, l2, l3], [.ref a, s0, s1], w, 0)) pt_116 rfl rfl,
  fun d l0 l1 l2 l3 s1 s2 a w Q => px_goO (q := (.getfield 29, 3, (10, 3, [(10, 0)], 0, "AllSworn"))) (S' := fun v => (64, [l0, l1, l2, l3], [v, s1, s2], w, 0)) pt_116 rfl rfl,
  fun d l0 l1 l2 s0 s1 s2 x w Q => px_go (q := (.iload_n 3, 1, px_x0)) (S' := (65, [l0, l1, l2, some (.int x)], [.int x, s0, s1, s2], w, 0)) pt_116 rfl rfl,
  fun d l0 l1 l2 l3 s2 s3 v0 b w Q => r_callV (q := (.invokevirtual 125, 3, (33, 1, [(5, 47)], 0, ""))) pt_116 rfl rfl (List.forall_mem_cons.mpr ⟨⟨_, pt_47, Nat.le_of_ble_eq_true rfl, (Nat.le_of_ble_eq_true rfl), rfl⟩, fun _ h => absurd h List.not_mem_nil⟩),
  fun d l0 l2 l3 s0 s1 s2 x w Q => px_go (q := (.iload_n 1, 1, px_x0)) (S' := (69, [l0, some (.int x), l2, l3], [.int x, s0, s1, s2], w, 0)) pt_116 rfl rfl,
  fun d l0 l1 l2 l3 v0 v1 v2 b w Q => r_callV (q := (.invokevirtual 224, 3, (33, 3, [(2, 21)], 0, ""))) pt_116 rfl rfl (List.forall_mem_cons.mpr ⟨⟨_, pt_21, Nat.le_of_ble_eq_true rfl, (Nat.le_of_ble_eq_true rfl), rfl⟩, fun _ h => absurd h List.not_mem_nil⟩),
  fun d l0 l1 l2 l3 x w Q => px_ret (q := (.ireturn, 1, px_x0)) pt_116 rfl rfl⟩
/-- AllSworn.enough(I)I -/
theorem S117 : (∀ (d : Nat) (v0 v1 : Value) (w : px_H) (Q : Option Value → px_H → Prop), wc d 117 [v0, v1] w Q ↔ wp d 117 0 [some v0, some v1] [] w 0 Q) ∧
  (∀ (d : Nat) (l1 : Option Value) (a : Nat) (w : px_H) (Q : Option Value → px_H → Prop), wp d 117 0 [some (.ref a), l1] [] w 0 Q ↔ wp d 117 1 [some (.ref a), l1] [.ref a] w 0 Q) ∧
  (∀ (d : Nat) (l0 l1 : Option Value) (a : Nat) (w : px_H) (Q : Option Value → px_H → Prop), wp d 117 1 [l0, l1] [.ref a] w 0 Q ↔ px_op (px_fld w a [(10, 0)] 3) (fun v => wp d 117 4 [l0, l1] [v] w 0 Q)) ∧
  (∀ (d : Nat) (l0 l1 : Option Value)  (b : Nat) (w : px_H) (Q : Option Value → px_H → Prop), wp (d + 1) 117 4 [l0, l1] [.ref b] w 0 Q ↔ px_op (px_tgt w b [(5, 42)]) (fun v => wc d v [.ref b] w (fun r w' => wp (d + 1) 117 7 [l0, l1] (r.toList ++ []) w' 0 Q))) ∧
  (∀ (d : Nat) (l0 l1 : Option Value) (x : Int32) (w : px_H) (Q : Option Value → px_H → Prop), wp d 117 7 [l0, l1] [.int x] w 0 Q ↔ if x = 0 then wp d 117 10 [l0, l1] [] w 0 Q else wp d 117 13 [l0, l1] [] w 0 Q) ∧
  (∀ (d : Nat) (l0 l1 : Option Value)  (w : px_H) (Q : Option Value → px_H → Prop), wp d 117 10 [l0, l1] [] w 0 Q ↔ wp d 117 12 [l0, l1] [.int (-1000002)] w 0 Q) ∧
  (∀ (d : Nat) (l0 l1 : Option Value) (x : Int32) (w : px_H) (Q : Option Value → px_H → Prop), wp d 117 12 [l0, l1] [.int x] w 0 Q ↔ Q (some (.int x)) w) ∧
  (∀ (d : Nat) (l0 : Option Value) (x : Int32) (w : px_H) (Q : Option Value → px_H → Prop), wp d 117 13 [l0, some (.int x)] [] w 0 Q ↔ wp d 117 14 [l0, some (.int x)] [.int x] w 0 Q) ∧
  (∀ (d : Nat) (l0 l1 : Option Value) (v0 : Value) (w : px_H) (Q : Option Value → px_H → Prop), wp (d + 1) 117 14 [l0, l1] [v0] w 0 Q ↔ wc d 135 [v0] w (fun r w' => wp (d + 1) 117 17 [l0, l1] (r.toList ++ []) w' 0 Q)) ∧
  (∀ (d : Nat) (l0 l1 : Option Value) (x : Int32) (w : px_H) (Q : Option Value → px_H → Prop), wp d 117 17 [l0, l1] [.int x] w 0 Q ↔ if x = 0 then wp d 117 38 [l0, l1] [] w 0 Q else wp d 117 20 [l0, l1] [] w 0 Q) ∧
  (∀ (d : Nat) (l1 : Option Value) (a : Nat) (w : px_H) (Q : Option Value → px_H → Prop), wp d 117 20 [some (.ref a), l1] [] w 0 Q ↔ wp d 117 21 [some (.ref a), l1] [.ref a] w 0 Q) ∧
  (∀ (d : Nat) (l0 l1 : Option Value) (a : Nat) (w : px_H) (Q : Option Value → px_H → Prop), wp d 117 21 [l0, l1] [.ref a] w 0 Q ↔ px_op (px_fld w a [(10, 0)] 5) (fun v => wp d 117 24 [l0, l1] [v] w 0 Q)) ∧
  (∀ (d : Nat) (l1 : Option Value) (s0 : Value) (a : Nat) (w : px_H) (Q : Option Value → px_H → Prop), wp d 117 24 [some (.ref a), l1] [s0] w 0 Q ↔ wp d 117 25 [some (.ref a), l1] [.ref a, s0] w 0 Q) ∧
  (∀ (d : Nat) (l0 l1 : Option Value) (s1 : Value) (a : Nat) (w : px_H) (Q : Option Value → px_H → Prop), wp d 117 25 [l0, l1] [.ref a, s1] w 0 Q ↔ px_op (px_fld w a [(10, 0)] 3) (fun v => wp d 117 28 [l0, l1] [v, s1] w 0 Q)) ∧
  (∀ (d : Nat) (l0 l1 : Option Value) (v0 : Value) (b : Nat) (w : px_H) (Q : Option Value → px_H → Prop), wp (d + 1) 117 28 [l0, l1] [v0, .ref b] w 0 Q ↔ px_op (px_tgt w b [(2, 22)]) (fun v => wc d v [.ref b, v0] w (fun r w' => wp (d + 1) 117 31 [l0, l1] (r.toList ++ []) w' 0 Q))) ∧
  (∀ (d : Nat) (l0 : Option Value) (s0 : Value) (x : Int32) (w : px_H) (Q : Option Value → px_H → Prop), wp d 117 31 [l0, some (.int x)] [s0] w 0 Q ↔ wp d 117 32 [l0, some (.int x)] [.int x, s0] w 0 Q) ∧
  (∀ (d : Nat) (l0 l1 : Option Value) (v0 v1 : Value) (w : px_H) (Q : Option Value → px_H → Prop), wp (d + 1) 117 32 [l0, l1] [v1, v0] w 0 Q ↔ wc d 136 [v0, v1] w (fun r w' => wp (d + 1) 117 35 [l0, l1] (r.toList ++ []) w' 0 Q)) ∧
  (∀ (d : Nat) (l0 l1 : Option Value) (s0 : Value)  (w : px_H) (Q : Option Value → px_H → Prop), wp d 117 35 [l0, l1] [s0] w 0 Q ↔ wp d 117 40 [l0, l1] [s0] w 0 Q) ∧
  (∀ (d : Nat) (l0 l1 : Option Value)  (w : px_H) (Q : Option Value → px_H → Prop), wp d 117 38 [l0, l1] [] w 0 Q ↔ wp d 117 40 [l0, l1] [.int (-1000001)] w 0 Q) ∧
  (∀ (d : Nat) (l0 l1 : Option Value) (x : Int32) (w : px_H) (Q : Option Value → px_H → Prop), wp d 117 40 [l0, l1] [.int x] w 0 Q ↔ Q (some (.int x)) w) := ⟨fun d v0 v1 w Q => r_entry pt_117 (Nat.le_of_ble_eq_true rfl) rfl,
  fun d l1 a w Q => px_go (q := (.aload_n 0, 1, px_x0)) (S' := (1, [some (.ref a), l1], [.ref a], w, 0)) pt_117 rfl rfl,
  fun d l0 l1 a w Q => px_goO (q := (.getfield 29, 3, (10, 3, [(10, 0)], 0, "AllSworn"))) (S' := fun v => (4, [l0, l1], [v], w, 0)) pt_117 rfl rfl,
  fun d l0 l1 b w Q => r_callV (q := (.invokevirtual 148, 3, (33, 0, [(5, 42)], 0, ""))) pt_117 rfl rfl (List.forall_mem_cons.mpr ⟨⟨_, pt_42, Nat.le_of_ble_eq_true rfl, (Nat.le_of_ble_eq_true rfl), rfl⟩, fun _ h => absurd h List.not_mem_nil⟩),
  fun d l0 l1 x w Q => r_if_ne pt_117 rfl rfl,
  fun d l0 l1 w Q => px_go (q := (.ldc 151, 2, (0, 0, [], (-1000002), ""))) (S' := (12, [l0, l1], [.int (-1000002)], w, 0)) pt_117 rfl rfl,
  fun d l0 l1 x w Q => px_ret (q := (.ireturn, 1, px_x0)) pt_117 rfl rfl,
  fun d l0 x w Q => px_go (q := (.iload_n 1, 1, px_x0)) (S' := (14, [l0, some (.int x)], [.int x], w, 0)) pt_117 rfl rfl,
  fun d l0 l1 v0 w Q => r_call (q := (.invokestatic 193, 3, (30, 1, [(0, 135)], 0, ""))) pt_117 rfl rfl pt_135 (Nat.le_of_ble_eq_true rfl) (Nat.le_of_ble_eq_true rfl) rfl,
  fun d l0 l1 x w Q => r_if_eq pt_117 rfl rfl,
  fun d l1 a w Q => px_go (q := (.aload_n 0, 1, px_x0)) (S' := (21, [some (.ref a), l1], [.ref a], w, 0)) pt_117 rfl rfl,
  fun d l0 l1 a w Q => px_goO (q := (.getfield 39, 3, (10, 5, [(10, 0)], 0, "AllSworn"))) (S' := fun v => (24, [l0, l1], [v], w, 0)) pt_117 rfl rfl,
  fun d l1 s0 a w Q => px_go (q := (.aload_n 0, 1, px_x0)) (S' := (25, [some (.ref a), l1], [.ref a, s0], w, 0)) pt_117 rfl rfl,
  fun d l0 l1 s1 a w Q => px_goO (q := (.getfield 29, 3, (10, 3, [(10, 0)], 0, "AllSworn"))) (S' := fun v => (28, [l0, l1], [v, s1], w, 0)) pt_117 rfl rfl,
  fun d l0 l1 v0 b w Q => r_callV (q := (.invokevirtual 228, 3, (33, 1, [(2, 22)], 0, ""))) pt_117 rfl rfl (List.forall_mem_cons.mpr ⟨⟨_, pt_22, Nat.le_of_ble_eq_true rfl, (Nat.le_of_ble_eq_true rfl), rfl⟩, fun _ h => absurd h List.not_mem_nil⟩),
  fun d l0 s0 x w Q => px_go (q := (.iload_n 1, 1, px_x0)) (S' := (32, [l0, some (.int x)], [.int x, s0], w, 0)) pt_117 rfl rfl,
  fun d l0 l1 v0 v1 w Q => r_call (q := (.invokestatic 199, 3, (30, 2, [(0, 136)], 0, ""))) pt_117 rfl rfl pt_136 (Nat.le_of_ble_eq_true rfl) (Nat.le_of_ble_eq_true rfl) rfl,
  fun d l0 l1 s0 w Q => r_goto pt_117 rfl rfl,
  fun d l0 l1 w Q => px_go (q := (.ldc 62, 2, (0, 0, [], (-1000001), ""))) (S' := (40, [l0, l1], [.int (-1000001)], w, 0)) pt_117 rfl rfl,
  fun d l0 l1 x w Q => px_ret (q := (.ireturn, 1, px_x0)) pt_117 rfl rfl⟩
/-- AllSworn.odds(III)I -/
theorem S118 : (∀ (d : Nat) (v0 v1 v2 v3 : Value) (w : px_H) (Q : Option Value → px_H → Prop), wc d 118 [v0, v1, v2, v3] w Q ↔ wp d 118 0 [some v0, some v1, some v2, some v3, none, none, none, none] [] w 0 Q) ∧
  (∀ (d : Nat) (l1 l2 l3 l4 l5 l6 l7 : Option Value) (a : Nat) (w : px_H) (Q : Option Value → px_H → Prop), wp d 118 0 [some (.ref a), l1, l2, l3, l4, l5, l6, l7] [] w 0 Q ↔ wp d 118 1 [some (.ref a), l1, l2, l3, l4, l5, l6, l7] [.ref a] w 0 Q) ∧
  (∀ (d : Nat) (l0 l1 l2 l3 l4 l5 l6 l7 : Option Value) (a : Nat) (w : px_H) (Q : Option Value → px_H → Prop), wp d 118 1 [l0, l1, l2, l3, l4, l5, l6, l7] [.ref a] w 0 Q ↔ px_op (px_fld w a [(10, 0)] 3) (fun v => wp d 118 4 [l0, l1, l2, l3, l4, l5, l6, l7] [v] w 0 Q)) ∧
  (∀ (d : Nat) (l0 l2 l3 l4 l5 l6 l7 : Option Value) (s0 : Value) (x : Int32) (w : px_H) (Q : Option Value → px_H → Prop), wp d 118 4 [l0, some (.int x), l2, l3, l4, l5, l6, l7] [s0] w 0 Q ↔ wp d 118 5 [l0, some (.int x), l2, l3, l4, l5, l6, l7] [.int x, s0] w 0 Q) ∧
  (∀ (d : Nat) (l0 l1 l2 l3 l4 l5 l6 l7 : Option Value) (v0 : Value) (b : Nat) (w : px_H) (Q : Option Value → px_H → Prop), wp (d + 1) 118 5 [l0, l1, l2, l3, l4, l5, l6, l7] [v0, .ref b] w 0 Q ↔ px_op (px_tgt w b [(5, 49)]) (fun v => wc d v [.ref b, v0] w (fun r w' => wp (d + 1) 118 8 [l0, l1, l2, l3, l4, l5, l6, l7] (r.toList ++ []) w' 0 Q))) ∧
  (∀ (d : Nat) (l0 l1 l2 l3 l4 l5 l6 l7 : Option Value) (x : Int32) (w : px_H) (Q : Option Value → px_H → Prop), wp d 118 8 [l0, l1, l2, l3, l4, l5, l6, l7] [.int x] w 0 Q ↔ if x = 0 then wp d 118 28 [l0, l1, l2, l3, l4, l5, l6, l7] [] w 0 Q else wp d 118 11 [l0, l1, l2, l3, l4, l5, l6, l7] [] w 0 Q) ∧
  (∀ (d : Nat) (l0 l1 l3 l4 l5 l6 l7 : Option Value) (x : Int32) (w : px_H) (Q : Option Value → px_H → Prop), wp d 118 11 [l0, l1, some (.int x), l3, l4, l5, l6, l7] [] w 0 Q ↔ wp d 118 12 [l0, l1, some (.int x), l3, l4, l5, l6, l7] [.int x] w 0 Q) ∧
  (∀ (d : Nat) (l0 l1 l2 l3 l4 l5 l6 l7 : Option Value) (x : Int32) (w : px_H) (Q : Option Value → px_H → Prop), wp d 118 12 [l0, l1, l2, l3, l4, l5, l6, l7] [.int x] w 0 Q ↔ if x < 0 then wp d 118 28 [l0, l1, l2, l3, l4, l5, l6, l7] [] w 0 Q else wp d 118 15 [l0, l1, l2, l3, l4, l5, l6, l7] [] w 0 Q) ∧
  (∀ (d : Nat) (l0 l1 l3 l4 l5 l6 l7 : Option Value) (x : Int32) (w : px_H) (Q : Option Value → px_H → Prop), wp d 118 15 [l0, l1, some (.int x), l3, l4, l5, l6, l7] [] w 0 Q ↔ wp d 118 16 [l0, l1, some (.int x), l3, l4, l5, l6, l7] [.int x] w 0 Q) ∧
  (∀ (d : Nat) (l0 l1 l2 l3 l4 l5 l6 l7 : Option Value) (s0 : Value)  (w : px_H) (Q : Option Value → px_H → Prop), wp d 118 16 [l0, l1, l2, l3, l4, l5, l6, l7] [s0] w 0 Q ↔ wp d 118 18 [l0, l1, l2, l3, l4, l5, l6, l7] [.int 10, s0] w 0 Q) ∧
  (∀ (d : Nat) (l0 l1 l2 l3 l4 l5 l6 l7 : Option Value) (x y : Int32) (w : px_H) (Q : Option Value → px_H → Prop), wp d 118 18 [l0, l1, l2, l3, l4, l5, l6, l7] [.int y, .int x] w 0 Q ↔ if y < x then wp d 118 28 [l0, l1, l2, l3, l4, l5, l6, l7] [] w 0 Q else wp d 118 21 [l0, l1, l2, l3, l4, l5, l6, l7] [] w 0 Q) ∧
  (∀ (d : Nat) (l0 l1 l2 l4 l5 l6 l7 : Option Value) (x : Int32) (w : px_H) (Q : Option Value → px_H → Prop), wp d 118 21 [l0, l1, l2, some (.int x), l4, l5, l6, l7] [] w 0 Q ↔ wp d 118 22 [l0, l1, l2, some (.int x), l4, l5, l6, l7] [.int x] w 0 Q) ∧
  (∀ (d : Nat) (l0 l1 l2 l3 l4 l5 l6 l7 : Option Value) (v0 : Value) (w : px_H) (Q : Option Value → px_H → Prop), wp (d + 1) 118 22 [l0, l1, l2, l3, l4, l5, l6, l7] [v0] w 0 Q ↔ wc d 135 [v0] w (fun r w' => wp (d + 1) 118 25 [l0, l1, l2, l3, l4, l5, l6, l7] (r.toList ++ []) w' 0 Q)) ∧
  (∀ (d : Nat) (l0 l1 l2 l3 l4 l5 l6 l7 : Option Value) (x : Int32) (w : px_H) (Q : Option Value → px_H → Prop), wp d 118 25 [l0, l1, l2, l3, l4, l5, l6, l7] [.int x] w 0 Q ↔ if x = 0 then wp d 118 28 [l0, l1, l2, l3, l4, l5, l6, l7] [] w 0 Q else wp d 118 31 [l0, l1, l2, l3, l4, l5, l6, l7] [] w 0 Q) ∧
  (∀ (d : Nat) (l0 l1 l2 l3 l4 l5 l6 l7 : Option Value)  (w : px_H) (Q : Option Value → px_H → Prop), wp d 118 28 [l0, l1, l2, l3, l4, l5, l6, l7] [] w 0 Q ↔ wp d 118 30 [l0, l1, l2, l3, l4, l5, l6, l7] [.int (-1000001)] w 0 Q) ∧
  (∀ (d : Nat) (l0 l1 l2 l3 l4 l5 l6 l7 : Option Value) (x : Int32) (w : px_H) (Q : Option Value → px_H → Prop), wp d 118 30 [l0, l1, l2, l3, l4, l5, l6, l7] [.int x] w 0 Q ↔ Q (some (.int x)) w) ∧
  (∀ (d : Nat) (l1 l2 l3 l4 l5 l6 l7 : Option Value) (a : Nat) (w : px_H) (Q : Option Value → px_H → Prop), wp d 118 31 [some (.ref a), l1, l2, l3, l4, l5, l6, l7] [] w 0 Q ↔ wp d 118 32 [some (.ref a), l1, l2, l3, l4, l5, l6, l7] [.ref a] w 0 Q) ∧
  (∀ (d : Nat) (l0 l1 l2 l3 l4 l5 l6 l7 : Option Value) (a : Nat) (w : px_H) (Q : Option Value → px_H → Prop), wp d 118 32 [l0, l1, l2, l3, l4, l5, l6, l7] [.ref a] w 0 Q ↔ px_op (px_fld w a [(10, 0)] 3) (fun v => wp d 118 35 [l0, l1, l2, l3, l4, l5, l6, l7] [v] w 0 Q)) ∧
  (∀ (d : Nat) (l0 l2 l3 l4 l5 l6 l7 : Option Value) (s0 : Value) (x : Int32) (w : px_H) (Q : Option Value → px_H → Prop), wp d 118 35 [l0, some (.int x), l2, l3, l4, l5, l6, l7] [s0] w 0 Q ↔ wp d 118 36 [l0, some (.int x), l2, l3, l4, l5, l6, l7] [.int x, s0] w 0 Q) ∧
  (∀ (d : Nat) (l0 l1 l2 l3 l4 l5 l6 l7 : Option Value) (v0 : Value) (b : Nat) (w : px_H) (Q : Option Value → px_H → Prop), wp (d + 1) 118 36 [l0, l1, l2, l3, l4, l5, l6, l7] [v0, .ref b] w 0 Q ↔ px_op (px_tgt w b [(5, 50)]) (fun v => wc d v [.ref b, v0] w (fun r w' => wp (d + 1) 118 39 [l0, l1, l2, l3, l4, l5, l6, l7] (r.toList ++ []) w' 0 Q))) ∧
  (∀ (d : Nat) (l1 l2 l3 l4 l5 l6 l7 : Option Value) (s0 : Value) (a : Nat) (w : px_H) (Q : Option Value → px_H → Prop), wp d 118 39 [some (.ref a), l1, l2, l3, l4, l5, l6, l7] [s0] w 0 Q ↔ wp d 118 40 [some (.ref a), l1, l2, l3, l4, l5, l6, l7] [.ref a, s0] w 0 Q) ∧
  (∀ (d : Nat) (l0 l1 l2 l3 l4 l5 l6 l7 : Option Value) (s1 : Value) (a : Nat) (w : px_H) (Q : Option Value → px_H → Prop), wp d 118 40 [l0, l1, l2, l3, l4, l5, l6, l7] [.ref a, s1] w 0 Q ↔ px_op (px_fld w a [(10, 0)] 3) (fun v => wp d 118 43 [l0, l1, l2, l3, l4, l5, l6, l7] [v, s1] w 0 Q)) ∧
  (∀ (d : Nat) (l1 l2 l3 l4 l5 l6 l7 : Option Value) (s0 s1 : Value) (a : Nat) (w : px_H) (Q : Option Value → px_H → Prop), wp d 118 43 [some (.ref a), l1, l2, l3, l4, l5, l6, l7] [s0, s1] w 0 Q ↔ wp d 118 44 [some (.ref a), l1, l2, l3, l4, l5, l6, l7] [.ref a, s0, s1] w 0 Q) ∧
  (∀ (d : Nat) (l0 l1 l2 l3 l4 l5 l6 l7 : Option Value) (s1 s2 : Value) (a : Nat) (w : px_H) (Q : Option Value → px_H → Prop), wp d 118 44 [l0, l1, l2, l3, l4, l5, l6, l7] [.ref a, s1, s2] w 0 Q ↔ px_op (px_fld w a [(10, 0)] 3) (fun v => wp d 118 47 [l0, l1, l2, l3, l4, l5, l6, l7] [v, s1, s2] w 0 Q)) ∧
  (∀ (d : Nat) (l0 l1 l2 l3 l4 l5 l6 l7 : Option Value) (s1 s2 : Value) (a : Nat) (w : px_H) (Q : Option Value → px_H → Prop), wp d 118 47 [l0, l1, l2, l3, l4, l5, l6, l7] [.ref a, s1, s2] w 0 Q ↔ px_op (px_fld w a [(5, 0)] 8) (fun v => wp d 118 50 [l0, l1, l2, l3, l4, l5, l6, l7] [v, s1, s2] w 0 Q)) ∧
  (∀ (d : Nat) (l0 l1 l2 l3 l4 l5 l6 l7 : Option Value) (s2 : Value) (v0 : Value) (b : Nat) (w : px_H) (Q : Option Value → px_H → Prop), wp (d + 1) 118 50 [l0, l1, l2, l3, l4, l5, l6, l7] [v0, .ref b, s2] w 0 Q ↔ px_op (px_tgt w b [(5, 57)]) (fun v => wc d v [.ref b, v0] w (fun r w' => wp (d + 1) 118 53 [l0, l1, l2, l3, l4, l5, l6, l7] (r.toList ++ [s2]) w' 0 Q))) ∧
  (∀ (d : Nat) (l0 l1 l2 l3 l4 l5 l6 l7 : Option Value) (x y : Int32) (w : px_H) (Q : Option Value → px_H → Prop), wp d 118 53 [l0, l1, l2, l3, l4, l5, l6, l7] [.int y, .int x] w 0 Q ↔ wp d 118 54 [l0, l1, l2, l3, l4, l5, l6, l7] [.int (x &&& y)] w 0 Q) ∧
  (∀ (d : Nat) (l0 l1 l2 l3 l4 l5 l6 l7 : Option Value) (v0 : Value) (w : px_H) (Q : Option Value → px_H → Prop), wp (d + 1) 118 54 [l0, l1, l2, l3, l4, l5, l6, l7] [v0] w 0 Q ↔ wc d 222 [v0] w (fun r w' => wp (d + 1) 118 57 [l0, l1, l2, l3, l4, l5, l6, l7] (r.toList ++ []) w' 0 Q)) ∧
  (∀ (d : Nat) (l0 l1 l2 l3 l4 l5 l6 l7 : Option Value) (x : Int32) (w : px_H) (Q : Option Value → px_H → Prop), wp d 118 57 [l0, l1, l2, l3, l4, l5, l6, l7] [.int x] w 0 Q ↔ wp d 118 59 [l0, l1, l2, l3, some (.int x), l5, l6, l7] [] w 0 Q) ∧
  (∀ (d : Nat) (l0 l1 l2 l3 l4 l5 l6 l7 : Option Value)  (w : px_H) (Q : Option Value → px_H → Prop), wp d 118 59 [l0, l1, l2, l3, l4, l5, l6, l7] [] w 0 Q ↔ wp d 118 61 [l0, l1, l2, l3, l4, l5, l6, l7] [.int 10] w 0 Q) ∧
  (∀ (d : Nat) (l0 l1 l2 l3 l5 l6 l7 : Option Value) (s0 : Value) (x : Int32) (w : px_H) (Q : Option Value → px_H → Prop), wp d 118 61 [l0, l1, l2, l3, some (.int x), l5, l6, l7] [s0] w 0 Q ↔ wp d 118 63 [l0, l1, l2, l3, some (.int x), l5, l6, l7] [.int x, s0] w 0 Q) ∧
  (∀ (d : Nat) (l0 l1 l2 l3 l4 l5 l6 l7 : Option Value) (v0 v1 : Value) (w : px_H) (Q : Option Value → px_H → Prop), wp (d + 1) 118 63 [l0, l1, l2, l3, l4, l5, l6, l7] [v1, v0] w 0 Q ↔ wc d 137 [v0, v1] w (fun r w' => wp (d + 1) 118 66 [l0, l1, l2, l3, l4, l5, l6, l7] (r.toList ++ []) w' 0 Q)) ∧
  (∀ (d : Nat) (l0 l1 l2 l3 l4 l5 l6 l7 : Option Value) (x : Int32) (w : px_H) (Q : Option Value → px_H → Prop), wp d 118 66 [l0, l1, l2, l3, l4, l5, l6, l7] [.int x] w 0 Q ↔ wp d 118 68 [l0, l1, l2, l3, l4, some (.int x), l6, l7] [] w 0 Q) ∧
  (∀ (d : Nat) (l0 l1 l2 l3 l4 l6 l7 : Option Value) (x : Int32) (w : px_H) (Q : Option Value → px_H → Prop), wp d 118 68 [l0, l1, l2, l3, l4, some (.int x), l6, l7] [] w 0 Q ↔ wp d 118 70 [l0, l1, l2, l3, l4, some (.int x), l6, l7] [.int x] w 0 Q) ∧
  (∀ (d : Nat) (l0 l1 l3 l4 l5 l6 l7 : Option Value) (s0 : Value) (x : Int32) (w : px_H) (Q : Option Value → px_H → Prop), wp d 118 70 [l0, l1, some (.int x), l3, l4, l5, l6, l7] [s0] w 0 Q ↔ wp d 118 71 [l0, l1, some (.int x), l3, l4, l5, l6, l7] [.int x, s0] w 0 Q) ∧
  (∀ (d : Nat) (l0 l1 l2 l3 l5 l6 l7 : Option Value) (s0 s1 : Value) (x : Int32) (w : px_H) (Q : Option Value → px_H → Prop), wp d 118 71 [l0, l1, l2, l3, some (.int x), l5, l6, l7] [s0, s1] w 0 Q ↔ wp d 118 73 [l0, l1, l2, l3, some (.int x), l5, l6, l7] [.int x, s0, s1] w 0 Q) ∧
  (∀ (d : Nat) (l0 l1 l2 l3 l4 l5 l6 l7 : Option Value) (s2 : Value) (v0 v1 : Value) (w : px_H) (Q : Option Value → px_H → Prop), wp (d + 1) 118 73 [l0, l1, l2, l3, l4, l5, l6, l7] [v1, v0, s2] w 0 Q ↔ wc d 137 [v0, v1] w (fun r w' => wp (d + 1) 118 76 [l0, l1, l2, l3, l4, l5, l6, l7] (r.toList ++ [s2]) w' 0 Q)) ∧
  (∀ (d : Nat) (l0 l1 l2 l3 l4 l5 l6 l7 : Option Value) (x y : Int32) (w : px_H) (Q : Option Value → px_H → Prop), wp d 118 76 [l0, l1, l2, l3, l4, l5, l6, l7] [.int y, .int x] w 0 Q ↔ wp d 118 77 [l0, l1, l2, l3, l4, l5, l6, l7] [.int (x - y)] w 0 Q) ∧
  (∀ (d : Nat) (l0 l1 l2 l3 l4 l5 l6 l7 : Option Value) (x : Int32) (w : px_H) (Q : Option Value → px_H → Prop), wp d 118 77 [l0, l1, l2, l3, l4, l5, l6, l7] [.int x] w 0 Q ↔ wp d 118 79 [l0, l1, l2, l3, l4, l5, some (.int x), l7] [] w 0 Q) ∧
  (∀ (d : Nat) (l0 l1 l2 l3 l4 l5 l7 : Option Value) (x : Int32) (w : px_H) (Q : Option Value → px_H → Prop), wp d 118 79 [l0, l1, l2, l3, l4, l5, some (.int x), l7] [] w 0 Q ↔ wp d 118 81 [l0, l1, l2, l3, l4, l5, some (.int x), l7] [.int x] w 0 Q) ∧
  (∀ (d : Nat) (l0 l1 l2 l3 l4 l6 l7 : Option Value) (s0 : Value) (x : Int32) (w : px_H) (Q : Option Value → px_H → Prop), wp d 118 81 [l0, l1, l2, l3, l4, some (.int x), l6, l7] [s0] w 0 Q ↔ wp d 118 83 [l0, l1, l2, l3, l4, some (.int x), l6, l7] [.int x, s0] w 0 Q) ∧
  (∀ (d : Nat) (l0 l1 l2 l3 l4 l5 l6 l7 : Option Value) (v0 v1 : Value) (w : px_H) (Q : Option Value → px_H → Prop), wp (d + 1) 118 83 [l0, l1, l2, l3, l4, l5, l6, l7] [v1, v0] w 0 Q ↔ wc d 138 [v0, v1] w (fun r w' => wp (d + 1) 118 86 [l0, l1, l2, l3, l4, l5, l6, l7] (r.toList ++ []) w' 0 Q)) ∧
  (∀ (d : Nat) (l0 l1 l2 l3 l4 l5 l6 l7 : Option Value) (x : Int32) (w : px_H) (Q : Option Value → px_H → Prop), wp d 118 86 [l0, l1, l2, l3, l4, l5, l6, l7] [.int x] w 0 Q ↔ wp d 118 88 [l0, l1, l2, l3, l4, l5, l6, some (.int x)] [] w 0 Q) ∧
  (∀ (d : Nat) (l0 l1 l2 l4 l5 l6 l7 : Option Value) (x : Int32) (w : px_H) (Q : Option Value → px_H → Prop), wp d 118 88 [l0, l1, l2, some (.int x), l4, l5, l6, l7] [] w 0 Q ↔ wp d 118 89 [l0, l1, l2, some (.int x), l4, l5, l6, l7] [.int x] w 0 Q) ∧
  (∀ (d : Nat) (l0 l1 l2 l3 l4 l5 l6 l7 : Option Value) (x : Int32) (w : px_H) (Q : Option Value → px_H → Prop), wp d 118 89 [l0, l1, l2, l3, l4, l5, l6, l7] [.int x] w 0 Q ↔ if x = 0 then wp d 118 92 [l0, l1, l2, l3, l4, l5, l6, l7] [] w 0 Q else wp d 118 97 [l0, l1, l2, l3, l4, l5, l6, l7] [] w 0 Q) ∧
  (∀ (d : Nat) (l0 l1 l2 l3 l4 l5 l7 : Option Value) (x : Int32) (w : px_H) (Q : Option Value → px_H → Prop), wp d 118 92 [l0, l1, l2, l3, l4, l5, some (.int x), l7] [] w 0 Q ↔ wp d 118 94 [l0, l1, l2, l3, l4, l5, some (.int x), l7] [.int x] w 0 Q) ∧
  (∀ (d : Nat) (l0 l1 l2 l3 l4 l5 l6 l7 : Option Value) (s0 : Value)  (w : px_H) (Q : Option Value → px_H → Prop), wp d 118 94 [l0, l1, l2, l3, l4, l5, l6, l7] [s0] w 0 Q ↔ wp d 118 99 [l0, l1, l2, l3, l4, l5, l6, l7] [s0] w 0 Q) ∧
  (∀ (d : Nat) (l0 l1 l2 l3 l4 l6 l7 : Option Value) (x : Int32) (w : px_H) (Q : Option Value → px_H → Prop), wp d 118 97 [l0, l1, l2, l3, l4, some (.int x), l6, l7] [] w 0 Q ↔ wp d 118 99 [l0, l1, l2, l3, l4, some (.int x), l6, l7] [.int x] w 0 Q) ∧
  (∀ (d : Nat) (l0 l1 l2 l3 l4 l5 l6 l7 : Option Value) (s0 : Value)  (w : px_H) (Q : Option Value → px_H → Prop), wp d 118 99 [l0, l1, l2, l3, l4, l5, l6, l7] [s0] w 0 Q ↔ wp d 118 100 [l0, l1, l2, l3, l4, l5, l6, l7] [.int 1, s0] w 0 Q) ∧
  (∀ (d : Nat) (l0 l1 l2 l3 l4 l5 l6 : Option Value) (s0 s1 : Value) (x : Int32) (w : px_H) (Q : Option Value → px_H → Prop), wp d 118 100 [l0, l1, l2, l3, l4, l5, l6, some (.int x)] [s0, s1] w 0 Q ↔ wp d 118 102 [l0, l1, l2, l3, l4, l5, l6, some (.int x)] [.int x, s0, s1] w 0 Q) ∧
  (∀ (d : Nat) (l0 l1 l2 l3 l4 l5 l6 l7 : Option Value) (s2 : Value) (x y : Int32) (w : px_H) (Q : Option Value → px_H → Prop), wp d 118 102 [l0, l1, l2, l3, l4, l5, l6, l7] [.int y, .int x, s2] w 0 Q ↔ wp d 118 105 [l0, l1, l2, l3, l4, l5, l6, l7] [.int (if x < y then y else x), s2] w 0 Q) ∧
  (∀ (d : Nat) (l0 l1 l2 l3 l4 l5 l6 l7 : Option Value) (x y : Int32) (w : px_H) (Q : Option Value → px_H → Prop), wp d 118 105 [l0, l1, l2, l3, l4, l5, l6, l7] [.int y, .int x] w 0 Q ↔ px_op (if y = 0 then none else some (x / y)) (fun z => wp d 118 106 [l0, l1, l2, l3, l4, l5, l6, l7] [.int z] w 0 Q)) ∧
  (∀ (d : Nat) (l0 l1 l2 l3 l4 l5 l6 l7 : Option Value) (x : Int32) (w : px_H) (Q : Option Value → px_H → Prop), wp d 118 106 [l0, l1, l2, l3, l4, l5, l6, l7] [.int x] w 0 Q ↔ Q (some (.int x)) w) := ⟨fun d v0 v1 v2 v3 w Q => r_entry pt_118 (Nat.le_of_ble_eq_true rfl) rfl,
  fun d l1 l2 l3 l4 l5 l6 l7 a w Q => px_go (q := (.aload_n 0, 1, px_x0)) (S' := (1, [some (.ref a), l1, l2, l3, l4, l5, l6, l7], [.ref a], w, 0)) pt_118 rfl rfl,
  fun d l0 l1 l2 l3 l4 l5 l6 l7 a w Q => px_goO (q := (.getfield 29, 3, (10, 3, [(10, 0)], 0, "AllSworn"))) (S' := fun v => (4, [l0, l1, l2, l3, l4, l5, l6, l7], [v], w, 0)) pt_118 rfl rfl,
  fun d l0 l2 l3 l4 l5 l6 l7 s0 x w Q => px_go (q := (.iload_n 1, 1, px_x0)) (S' := (5, [l0, some (.int x), l2, l3, l4, l5, l6, l7], [.int x, s0], w, 0)) pt_118 rfl rfl,
  fun d l0 l1 l2 l3 l4 l5 l6 l7 v0 b w Q => r_callV (q := (.invokevirtual 142, 3, (33, 1, [(5, 49)], 0, ""))) pt_118 rfl rfl (List.forall_mem_cons.mpr ⟨⟨_, pt_49, Nat.le_of_ble_eq_true rfl, (Nat.le_of_ble_eq_true rfl), rfl⟩, fun _ h => absurd h List.not_mem_nil⟩),
  fun d l0 l1 l2 l3 l4 l5 l6 l7 x w Q => r_if_eq pt_118 rfl rfl,
  fun d l0 l1 l3 l4 l5 l6 l7 x w Q => px_go (q := (.iload_n 2, 1, px_x0)) (S' := (12, [l0, l1, some (.int x), l3, l4, l5, l6, l7], [.int x], w, 0)) pt_118 rfl rfl,
  fun d l0 l1 l2 l3 l4 l5 l6 l7 x w Q => r_if_lt pt_118 rfl rfl,
  fun d l0 l1 l3 l4 l5 l6 l7 x w Q => px_go (q := (.iload_n 2, 1, px_x0)) (S' := (16, [l0, l1, some (.int x), l3, l4, l5, l6, l7], [.int x], w, 0)) pt_118 rfl rfl,
  fun d l0 l1 l2 l3 l4 l5 l6 l7 s0 w Q => r_bipush pt_118 rfl (by decide),
  fun d l0 l1 l2 l3 l4 l5 l6 l7 x y w Q => r_icmp_gt pt_118 rfl rfl,
  fun d l0 l1 l2 l4 l5 l6 l7 x w Q => px_go (q := (.iload_n 3, 1, px_x0)) (S' := (22, [l0, l1, l2, some (.int x), l4, l5, l6, l7], [.int x], w, 0)) pt_118 rfl rfl,
  fun d l0 l1 l2 l3 l4 l5 l6 l7 v0 w Q => r_call (q := (.invokestatic 193, 3, (30, 1, [(0, 135)], 0, ""))) pt_118 rfl rfl pt_135 (Nat.le_of_ble_eq_true rfl) (Nat.le_of_ble_eq_true rfl) rfl,
  fun d l0 l1 l2 l3 l4 l5 l6 l7 x w Q => r_if_ne pt_118 rfl rfl,
  fun d l0 l1 l2 l3 l4 l5 l6 l7 w Q => px_go (q := (.ldc 62, 2, (0, 0, [], (-1000001), ""))) (S' := (30, [l0, l1, l2, l3, l4, l5, l6, l7], [.int (-1000001)], w, 0)) pt_118 rfl rfl,
  fun d l0 l1 l2 l3 l4 l5 l6 l7 x w Q => px_ret (q := (.ireturn, 1, px_x0)) pt_118 rfl rfl,
  fun d l1 l2 l3 l4 l5 l6 l7 a w Q => px_go (q := (.aload_n 0, 1, px_x0)) (S' := (32, [some (.ref a), l1, l2, l3, l4, l5, l6, l7], [.ref a], w, 0)) pt_118 rfl rfl,
  fun d l0 l1 l2 l3 l4 l5 l6 l7 a w Q => px_goO (q := (.getfield 29, 3, (10, 3, [(10, 0)], 0, "AllSworn"))) (S' := fun v => (35, [l0, l1, l2, l3, l4, l5, l6, l7], [v], w, 0)) pt_118 rfl rfl,
  fun d l0 l2 l3 l4 l5 l6 l7 s0 x w Q => px_go (q := (.iload_n 1, 1, px_x0)) (S' := (36, [l0, some (.int x), l2, l3, l4, l5, l6, l7], [.int x, s0], w, 0)) pt_118 rfl rfl,
  fun d l0 l1 l2 l3 l4 l5 l6 l7 v0 b w Q => r_callV (q := (.invokevirtual 177, 3, (33, 1, [(5, 50)], 0, ""))) pt_118 rfl rfl (List.forall_mem_cons.mpr ⟨⟨_, pt_50, Nat.le_of_ble_eq_true rfl, (Nat.le_of_ble_eq_true rfl), rfl⟩, fun _ h => absurd h List.not_mem_nil⟩),
  fun d l1 l2 l3 l4 l5 l6 l7 s0 a w Q => px_go (q := (.aload_n 0, 1, px_x0)) (S' := (40, [some (.ref a), l1, l2, l3, l4, l5, l6, l7], [.ref a, s0], w, 0)) pt_118 rfl rfl,
  fun d l0 l1 l2 l3 l4 l5 l6 l7 s1 a w Q => px_goO (q := (.getfield 29, 3, (10, 3, [(10, 0)], 0, "AllSworn"))) (S' := fun v => (43, [l0, l1, l2, l3, l4, l5, l6, l7], [v, s1], w, 0)) pt_118 rfl rfl,
  fun d l1 l2 l3 l4 l5 l6 l7 s0 s1 a w Q => px_go (q := (.aload_n 0, 1, px_x0)) (S' := (44, [some (.ref a), l1, l2, l3, l4, l5, l6, l7], [.ref a, s0, s1], w, 0)) pt_118 rfl rfl,
  fun d l0 l1 l2 l3 l4 l5 l6 l7 s1 s2 a w Q => px_goO (q := (.getfield 29, 3, (10, 3, [(10, 0)], 0, "AllSworn"))) (S' := fun v => (47, [l0, l1, l2, l3, l4, l5, l6, l7], [v, s1, s2], w, 0)) pt_118 rfl rfl,
  fun d l0 l1 l2 l3 l4 l5 l6 l7 s1 s2 a w Q => px_goO (q := (.getfield 129, 3, (11, 8, [(5, 0)], 0, "AllSworn$Realm"))) (S' := fun v => (50, [l0, l1, l2, l3, l4, l5, l6, l7], [v, s1, s2], w, 0)) pt_118 rfl rfl,
  fun d l0 l1 l2 l3 l4 l5 l6 l7 s2 v0 b w Q => r_callV (q := (.invokevirtual 171, 3, (33, 1, [(5, 57)], 0, ""))) pt_118 rfl rfl (List.forall_mem_cons.mpr ⟨⟨_, pt_57, Nat.le_of_ble_eq_true rfl, (Nat.le_of_ble_eq_true rfl), rfl⟩, fun _ h => absurd h List.not_mem_nil⟩),
  fun d l0 l1 l2 l3 l4 l5 l6 l7 x y w Q => px_go (q := (.iand, 1, px_x0)) (S' := (54, [l0, l1, l2, l3, l4, l5, l6, l7], [.int (x &&& y)], w, 0)) pt_118 rfl rfl,
  fun d l0 l1 l2 l3 l4 l5 l6 l7 v0 w Q => r_call (q := (.invokestatic 231, 3, (30, 1, [(0, 222)], 0, ""))) pt_118 rfl rfl pt_222 (Nat.le_of_ble_eq_true rfl) (Nat.le_of_ble_eq_true rfl) rfl,
  fun d l0 l1 l2 l3 l4 l5 l6 l7 x w Q => px_go (q := (.istore 4, 2, px_x0)) (S' := (59, [l0, l1, l2, l3, some (.int x), l5, l6, l7], [], w, 0)) pt_118 rfl rfl,
  fun d l0 l1 l2 l3 l4 l5 l6 l7 w Q => r_bipush pt_118 rfl (by decide),
  fun d l0 l1 l2 l3 l5 l6 l7 s0 x w Q => px_go (q := (.iload 4, 2, px_x0)) (S' := (63, [l0, l1, l2, l3, some (.int x), l5, l6, l7], [.int x, s0], w, 0)) pt_118 rfl rfl,
  fun d l0 l1 l2 l3 l4 l5 l6 l7 v0 v1 w Q => r_call (q := (.invokestatic 236, 3, (30, 2, [(0, 137)], 0, ""))) pt_118 rfl rfl pt_137 (Nat.le_of_ble_eq_true rfl) (Nat.le_of_ble_eq_true rfl) rfl,
  fun d l0 l1 l2 l3 l4 l5 l6 l7 x w Q => px_go (q := (.istore 5, 2, px_x0)) (S' := (68, [l0, l1, l2, l3, l4, some (.int x), l6, l7], [], w, 0)) pt_118 rfl rfl,
  fun d l0 l1 l2 l3 l4 l6 l7 x w Q => px_go (q := (.iload 5, 2, px_x0)) (S' := (70, [l0, l1, l2, l3, l4, some (.int x), l6, l7], [.int x], w, 0)) pt_118 rfl rfl,
  fun d l0 l1 l3 l4 l5 l6 l7 s0 x w Q => px_go (q := (.iload_n 2, 1, px_x0)) (S' := (71, [l0, l1, some (.int x), l3, l4, l5, l6, l7], [.int x, s0], w, 0)) pt_118 rfl rfl,
  fun d l0 l1 l2 l3 l5 l6 l7 s0 s1 x w Q => px_go (q := (.iload 4, 2, px_x0)) (S' := (73, [l0, l1, l2, l3, some (.int x), l5, l6, l7], [.int x, s0, s1], w, 0)) pt_118 rfl rfl,
  fun d l0 l1 l2 l3 l4 l5 l6 l7 s2 v0 v1 w Q => r_call (q := (.invokestatic 236, 3, (30, 2, [(0, 137)], 0, ""))) pt_118 rfl rfl pt_137 (Nat.le_of_ble_eq_true rfl) (Nat.le_of_ble_eq_true rfl) rfl,
  fun d l0 l1 l2 l3 l4 l5 l6 l7 x y w Q => px_go (q := (.isub, 1, px_x0)) (S' := (77, [l0, l1, l2, l3, l4, l5, l6, l7], [.int (x - y)], w, 0)) pt_118 rfl rfl,
  fun d l0 l1 l2 l3 l4 l5 l6 l7 x w Q => px_go (q := (.istore 6, 2, px_x0)) (S' := (79, [l0, l1, l2, l3, l4, l5, some (.int x), l7], [], w, 0)) pt_118 rfl rfl,
  fun d l0 l1 l2 l3 l4 l5 l7 x w Q => px_go (q := (.iload 6, 2, px_x0)) (S' := (81, [l0, l1, l2, l3, l4, l5, some (.int x), l7], [.int x], w, 0)) pt_118 rfl rfl,
  fun d l0 l1 l2 l3 l4 l6 l7 s0 x w Q => px_go (q := (.iload 5, 2, px_x0)) (S' := (83, [l0, l1, l2, l3, l4, some (.int x), l6, l7], [.int x, s0], w, 0)) pt_118 rfl rfl,
  fun d l0 l1 l2 l3 l4 l5 l6 l7 v0 v1 w Q => r_call (q := (.invokestatic 239, 3, (30, 2, [(0, 138)], 0, ""))) pt_118 rfl rfl pt_138 (Nat.le_of_ble_eq_true rfl) (Nat.le_of_ble_eq_true rfl) rfl,
  fun d l0 l1 l2 l3 l4 l5 l6 l7 x w Q => px_go (q := (.istore 7, 2, px_x0)) (S' := (88, [l0, l1, l2, l3, l4, l5, l6, some (.int x)], [], w, 0)) pt_118 rfl rfl,
  fun d l0 l1 l2 l4 l5 l6 l7 x w Q => px_go (q := (.iload_n 3, 1, px_x0)) (S' := (89, [l0, l1, l2, some (.int x), l4, l5, l6, l7], [.int x], w, 0)) pt_118 rfl rfl,
  fun d l0 l1 l2 l3 l4 l5 l6 l7 x w Q => r_if_ne pt_118 rfl rfl,
  fun d l0 l1 l2 l3 l4 l5 l7 x w Q => px_go (q := (.iload 6, 2, px_x0)) (S' := (94, [l0, l1, l2, l3, l4, l5, some (.int x), l7], [.int x], w, 0)) pt_118 rfl rfl,
  fun d l0 l1 l2 l3 l4 l5 l6 l7 s0 w Q => r_goto pt_118 rfl rfl,
  fun d l0 l1 l2 l3 l4 l6 l7 x w Q => px_go (q := (.iload 5, 2, px_x0)) (S' := (99, [l0, l1, l2, l3, l4, some (.int x), l6, l7], [.int x], w, 0)) pt_118 rfl rfl,
  fun d l0 l1 l2 l3 l4 l5 l6 l7 s0 w Q => r_iconst pt_118 rfl (by decide),
  fun d l0 l1 l2 l3 l4 l5 l6 s0 s1 x w Q => px_go (q := (.iload 7, 2, px_x0)) (S' := (102, [l0, l1, l2, l3, l4, l5, l6, some (.int x)], [.int x, s0, s1], w, 0)) pt_118 rfl rfl,
  fun d l0 l1 l2 l3 l4 l5 l6 l7 s2 x y w Q => px_go (q := (.invokestatic 242, 3, (38, 0, [], 0, ""))) (S' := (105, [l0, l1, l2, l3, l4, l5, l6, l7], [.int (if x < y then y else x), s2], w, 0)) pt_118 rfl rfl,
  fun d l0 l1 l2 l3 l4 l5 l6 l7 x y w Q => px_goO (q := (.idiv, 1, px_x0)) (S' := fun z => (106, [l0, l1, l2, l3, l4, l5, l6, l7], [.int z], w, 0)) pt_118 rfl rfl,
  fun d l0 l1 l2 l3 l4 l5 l6 l7 x w Q => px_ret (q := (.ireturn, 1, px_x0)) pt_118 rfl rfl⟩
/-- AllSworn.hitBy(III)I -/
theorem S119 : (∀ (d : Nat) (v0 v1 v2 v3 : Value) (w : px_H) (Q : Option Value → px_H → Prop), wc d 119 [v0, v1, v2, v3] w Q ↔ wp d 119 0 [some v0, some v1, some v2, some v3, none] [] w 0 Q) ∧
  (∀ (d : Nat) (l1 l2 l3 l4 : Option Value) (a : Nat) (w : px_H) (Q : Option Value → px_H → Prop), wp d 119 0 [some (.ref a), l1, l2, l3, l4] [] w 0 Q ↔ wp d 119 1 [some (.ref a), l1, l2, l3, l4] [.ref a] w 0 Q) ∧
  (∀ (d : Nat) (l0 l1 l2 l3 l4 : Option Value) (a : Nat) (w : px_H) (Q : Option Value → px_H → Prop), wp d 119 1 [l0, l1, l2, l3, l4] [.ref a] w 0 Q ↔ px_op (px_fld w a [(10, 0)] 3) (fun v => wp d 119 4 [l0, l1, l2, l3, l4] [v] w 0 Q)) ∧
  (∀ (d : Nat) (l0 l1 l2 l3 l4 : Option Value)  (b : Nat) (w : px_H) (Q : Option Value → px_H → Prop), wp (d + 1) 119 4 [l0, l1, l2, l3, l4] [.ref b] w 0 Q ↔ px_op (px_tgt w b [(5, 42)]) (fun v => wc d v [.ref b] w (fun r w' => wp (d + 1) 119 7 [l0, l1, l2, l3, l4] (r.toList ++ []) w' 0 Q))) ∧
  (∀ (d : Nat) (l0 l1 l2 l3 l4 : Option Value) (x : Int32) (w : px_H) (Q : Option Value → px_H → Prop), wp d 119 7 [l0, l1, l2, l3, l4] [.int x] w 0 Q ↔ if x = 0 then wp d 119 10 [l0, l1, l2, l3, l4] [] w 0 Q else wp d 119 13 [l0, l1, l2, l3, l4] [] w 0 Q) ∧
  (∀ (d : Nat) (l0 l1 l2 l3 l4 : Option Value)  (w : px_H) (Q : Option Value → px_H → Prop), wp d 119 10 [l0, l1, l2, l3, l4] [] w 0 Q ↔ wp d 119 12 [l0, l1, l2, l3, l4] [.int (-1000002)] w 0 Q) ∧
  (∀ (d : Nat) (l0 l1 l2 l3 l4 : Option Value) (x : Int32) (w : px_H) (Q : Option Value → px_H → Prop), wp d 119 12 [l0, l1, l2, l3, l4] [.int x] w 0 Q ↔ Q (some (.int x)) w) ∧
  (∀ (d : Nat) (l1 l2 l3 l4 : Option Value) (a : Nat) (w : px_H) (Q : Option Value → px_H → Prop), wp d 119 13 [some (.ref a), l1, l2, l3, l4] [] w 0 Q ↔ wp d 119 14 [some (.ref a), l1, l2, l3, l4] [.ref a] w 0 Q) ∧
  (∀ (d : Nat) (l0 l2 l3 l4 : Option Value) (s0 : Value) (x : Int32) (w : px_H) (Q : Option Value → px_H → Prop), wp d 119 14 [l0, some (.int x), l2, l3, l4] [s0] w 0 Q ↔ wp d 119 15 [l0, some (.int x), l2, l3, l4] [.int x, s0] w 0 Q) ∧
  (∀ (d : Nat) (l0 l1 l2 l3 l4 : Option Value) (v0 : Value) (b : Nat) (w : px_H) (Q : Option Value → px_H → Prop), wp (d + 1) 119 15 [l0, l1, l2, l3, l4] [v0, .ref b] w 0 Q ↔ px_op (px_tgt w b [(10, 131)]) (fun v => wc d v [.ref b, v0] w (fun r w' => wp (d + 1) 119 18 [l0, l1, l2, l3, l4] (r.toList ++ []) w' 0 Q))) ∧
  (∀ (d : Nat) (l0 l1 l2 l3 l4 : Option Value) (a : Nat) (w : px_H) (Q : Option Value → px_H → Prop), wp d 119 18 [l0, l1, l2, l3, l4] [.ref a] w 0 Q ↔ wp d 119 20 [l0, l1, l2, l3, some (.ref a)] [] w 0 Q) ∧
  (∀ (d : Nat) (l0 l1 l2 l3 l4 : Option Value)  (w : px_H) (Q : Option Value → px_H → Prop), wp d 119 18 [l0, l1, l2, l3, l4] [.null] w 0 Q ↔ wp d 119 20 [l0, l1, l2, l3, some .null] [] w 0 Q) ∧
  (∀ (d : Nat) (l0 l1 l2 l3 : Option Value) (a : Nat) (w : px_H) (Q : Option Value → px_H → Prop), wp d 119 20 [l0, l1, l2, l3, some (.ref a)] [] w 0 Q ↔ wp d 119 22 [l0, l1, l2, l3, some (.ref a)] [.ref a] w 0 Q) ∧
  (∀ (d : Nat) (l0 l1 l2 l3 : Option Value)  (w : px_H) (Q : Option Value → px_H → Prop), wp d 119 20 [l0, l1, l2, l3, some .null] [] w 0 Q ↔ wp d 119 22 [l0, l1, l2, l3, some .null] [.null] w 0 Q) ∧
  (∀ (d : Nat) (l0 l1 l2 l3 l4 : Option Value)  (w : px_H) (Q : Option Value → px_H → Prop), wp d 119 22 [l0, l1, l2, l3, l4] [.null] w 0 Q ↔ wp d 119 36 [l0, l1, l2, l3, l4] [] w 0 Q) ∧
  (∀ (d : Nat) (l0 l1 l2 l3 l4 : Option Value) (a : Nat) (w : px_H) (Q : Option Value → px_H → Prop), wp d 119 22 [l0, l1, l2, l3, l4] [.ref a] w 0 Q ↔ wp d 119 25 [l0, l1, l2, l3, l4] [] w 0 Q) ∧
  (∀ (d : Nat) (l0 l1 l2 l4 : Option Value) (x : Int32) (w : px_H) (Q : Option Value → px_H → Prop), wp d 119 25 [l0, l1, l2, some (.int x), l4] [] w 0 Q ↔ wp d 119 26 [l0, l1, l2, some (.int x), l4] [.int x] w 0 Q) ∧
  (∀ (d : Nat) (l0 l1 l2 l3 l4 : Option Value) (s0 : Value)  (w : px_H) (Q : Option Value → px_H → Prop), wp d 119 26 [l0, l1, l2, l3, l4] [s0] w 0 Q ↔ wp d 119 27 [l0, l1, l2, l3, l4] [.int 1, s0] w 0 Q) ∧
  (∀ (d : Nat) (l0 l1 l2 l3 l4 : Option Value) (x y : Int32) (w : px_H) (Q : Option Value → px_H → Prop), wp d 119 27 [l0, l1, l2, l3, l4] [.int y, .int x] w 0 Q ↔ if x < y then wp d 119 36 [l0, l1, l2, l3, l4] [] w 0 Q else wp d 119 30 [l0, l1, l2, l3, l4] [] w 0 Q) ∧
  (∀ (d : Nat) (l0 l1 l2 l4 : Option Value) (x : Int32) (w : px_H) (Q : Option Value → px_H → Prop), wp d 119 30 [l0, l1, l2, some (.int x), l4] [] w 0 Q ↔ wp d 119 31 [l0, l1, l2, some (.int x), l4] [.int x] w 0 Q) ∧
  (∀ (d : Nat) (l0 l1 l2 l3 l4 : Option Value) (s0 : Value)  (w : px_H) (Q : Option Value → px_H → Prop), wp d 119 31 [l0, l1, l2, l3, l4] [s0] w 0 Q ↔ wp d 119 33 [l0, l1, l2, l3, l4] [.int 12, s0] w 0 Q) ∧
  (∀ (d : Nat) (l0 l1 l2 l3 l4 : Option Value) (x y : Int32) (w : px_H) (Q : Option Value → px_H → Prop), wp d 119 33 [l0, l1, l2, l3, l4] [.int y, .int x] w 0 Q ↔ if x ≤ y then wp d 119 39 [l0, l1, l2, l3, l4] [] w 0 Q else wp d 119 36 [l0, l1, l2, l3, l4] [] w 0 Q) ∧
  (∀ (d : Nat) (l0 l1 l2 l3 l4 : Option Value)  (w : px_H) (Q : Option Value → px_H → Prop), wp d 119 36 [l0, l1, l2, l3, l4] [] w 0 Q ↔ wp d 119 38 [l0, l1, l2, l3, l4] [.int (-1000001)] w 0 Q) ∧
  (∀ (d : Nat) (l0 l1 l2 l3 l4 : Option Value) (x : Int32) (w : px_H) (Q : Option Value → px_H → Prop), wp d 119 38 [l0, l1, l2, l3, l4] [.int x] w 0 Q ↔ Q (some (.int x)) w) ∧
  (∀ (d : Nat) (l0 l1 l2 l3 : Option Value) (a : Nat) (w : px_H) (Q : Option Value → px_H → Prop), wp d 119 39 [l0, l1, l2, l3, some (.ref a)] [] w 0 Q ↔ wp d 119 41 [l0, l1, l2, l3, some (.ref a)] [.ref a] w 0 Q) ∧
  (∀ (d : Nat) (l0 l1 l2 l3 : Option Value)  (w : px_H) (Q : Option Value → px_H → Prop), wp d 119 39 [l0, l1, l2, l3, some .null] [] w 0 Q ↔ wp d 119 41 [l0, l1, l2, l3, some .null] [.null] w 0 Q) ∧
  (∀ (d : Nat) (l0 l1 l2 l3 l4 : Option Value)  (b : Nat) (w : px_H) (Q : Option Value → px_H → Prop), wp (d + 1) 119 41 [l0, l1, l2, l3, l4] [.ref b] w 0 Q ↔ px_op (px_tgt w b [(6, 67)]) (fun v => wc d v [.ref b] w (fun r w' => wp (d + 1) 119 44 [l0, l1, l2, l3, l4] (r.toList ++ []) w' 0 Q))) ∧
  (∀ (d : Nat) (l0 l1 l2 l3 l4 : Option Value) (x : Int32) (w : px_H) (Q : Option Value → px_H → Prop), wp d 119 44 [l0, l1, l2, l3, l4] [.int x] w 0 Q ↔ if x = 0 then wp d 119 53 [l0, l1, l2, l3, l4] [] w 0 Q else wp d 119 47 [l0, l1, l2, l3, l4] [] w 0 Q) ∧
  (∀ (d : Nat) (l1 l2 l3 l4 : Option Value) (a : Nat) (w : px_H) (Q : Option Value → px_H → Prop), wp d 119 47 [some (.ref a), l1, l2, l3, l4] [] w 0 Q ↔ wp d 119 48 [some (.ref a), l1, l2, l3, l4] [.ref a] w 0 Q) ∧
  (∀ (d : Nat) (l0 l1 l2 l3 l4 : Option Value) (s0 : Value)  (w : px_H) (Q : Option Value → px_H → Prop), wp d 119 48 [l0, l1, l2, l3, l4] [s0] w 0 Q ↔ wp d 119 49 [l0, l1, l2, l3, l4] [.int 1, s0] w 0 Q) ∧
  (∀ (d : Nat) (l0 l1 l2 l3 l4 : Option Value) (v0 : Value) (b : Nat) (w : px_H) (Q : Option Value → px_H → Prop), wp (d + 1) 119 49 [l0, l1, l2, l3, l4] [v0, .ref b] w 0 Q ↔ px_op (px_tgt w b [(10, 129)]) (fun v => wc d v [.ref b, v0] w (fun r w' => wp (d + 1) 119 52 [l0, l1, l2, l3, l4] (r.toList ++ []) w' 0 Q))) ∧
  (∀ (d : Nat) (l0 l1 l2 l3 l4 : Option Value) (x : Int32) (w : px_H) (Q : Option Value → px_H → Prop), wp d 119 52 [l0, l1, l2, l3, l4] [.int x] w 0 Q ↔ Q (some (.int x)) w) ∧
  (∀ (d : Nat) (l0 l1 l2 l3 : Option Value) (a : Nat) (w : px_H) (Q : Option Value → px_H → Prop), wp d 119 53 [l0, l1, l2, l3, some (.ref a)] [] w 0 Q ↔ wp d 119 55 [l0, l1, l2, l3, some (.ref a)] [.ref a] w 0 Q) ∧
  (∀ (d : Nat) (l0 l1 l2 l3 : Option Value)  (w : px_H) (Q : Option Value → px_H → Prop), wp d 119 53 [l0, l1, l2, l3, some .null] [] w 0 Q ↔ wp d 119 55 [l0, l1, l2, l3, some .null] [.null] w 0 Q) ∧
  (∀ (d : Nat) (l0 l1 l3 l4 : Option Value) (s0 : Value) (x : Int32) (w : px_H) (Q : Option Value → px_H → Prop), wp d 119 55 [l0, l1, some (.int x), l3, l4] [s0] w 0 Q ↔ wp d 119 56 [l0, l1, some (.int x), l3, l4] [.int x, s0] w 0 Q) ∧
  (∀ (d : Nat) (l0 l1 l2 l4 : Option Value) (s0 s1 : Value) (x : Int32) (w : px_H) (Q : Option Value → px_H → Prop), wp d 119 56 [l0, l1, l2, some (.int x), l4] [s0, s1] w 0 Q ↔ wp d 119 57 [l0, l1, l2, some (.int x), l4] [.int x, s0, s1] w 0 Q) ∧
  (∀ (d : Nat) (l0 l1 l2 l3 l4 : Option Value) (v0 v1 : Value) (b : Nat) (w : px_H) (Q : Option Value → px_H → Prop), wp (d + 1) 119 57 [l0, l1, l2, l3, l4] [v1, v0, .ref b] w 0 Q ↔ px_op (px_tgt w b [(6, 70)]) (fun v => wc d v [.ref b, v0, v1] w (fun r w' => wp (d + 1) 119 60 [l0, l1, l2, l3, l4] (r.toList ++ []) w' 0 Q))) ∧
  (∀ (d : Nat) (l0 l1 l2 l3 l4 : Option Value) (x : Int32) (w : px_H) (Q : Option Value → px_H → Prop), wp d 119 60 [l0, l1, l2, l3, l4] [.int x] w 0 Q ↔ if x = 0 then wp d 119 63 [l0, l1, l2, l3, l4] [] w 0 Q else wp d 119 69 [l0, l1, l2, l3, l4] [] w 0 Q) ∧
  (∀ (d : Nat) (l1 l2 l3 l4 : Option Value) (a : Nat) (w : px_H) (Q : Option Value → px_H → Prop), wp d 119 63 [some (.ref a), l1, l2, l3, l4] [] w 0 Q ↔ wp d 119 64 [some (.ref a), l1, l2, l3, l4] [.ref a] w 0 Q) ∧
  (∀ (d : Nat) (l0 l1 l2 l3 l4 : Option Value) (s0 : Value)  (w : px_H) (Q : Option Value → px_H → Prop), wp d 119 64 [l0, l1, l2, l3, l4] [s0] w 0 Q ↔ wp d 119 65 [l0, l1, l2, l3, l4] [.int 2, s0] w 0 Q) ∧
  (∀ (d : Nat) (l0 l1 l2 l3 l4 : Option Value) (v0 : Value) (b : Nat) (w : px_H) (Q : Option Value → px_H → Prop), wp (d + 1) 119 65 [l0, l1, l2, l3, l4] [v0, .ref b] w 0 Q ↔ px_op (px_tgt w b [(10, 129)]) (fun v => wc d v [.ref b, v0] w (fun r w' => wp (d + 1) 119 68 [l0, l1, l2, l3, l4] (r.toList ++ []) w' 0 Q))) ∧
  (∀ (d : Nat) (l0 l1 l2 l3 l4 : Option Value) (x : Int32) (w : px_H) (Q : Option Value → px_H → Prop), wp d 119 68 [l0, l1, l2, l3, l4] [.int x] w 0 Q ↔ Q (some (.int x)) w) ∧
  (∀ (d : Nat) (l0 l1 l2 l3 : Option Value) (a : Nat) (w : px_H) (Q : Option Value → px_H → Prop), wp d 119 69 [l0, l1, l2, l3, some (.ref a)] [] w 0 Q ↔ wp d 119 71 [l0, l1, l2, l3, some (.ref a)] [.ref a] w 0 Q) ∧
  (∀ (d : Nat) (l0 l1 l2 l3 : Option Value)  (w : px_H) (Q : Option Value → px_H → Prop), wp d 119 69 [l0, l1, l2, l3, some .null] [] w 0 Q ↔ wp d 119 71 [l0, l1, l2, l3, some .null] [.null] w 0 Q) ∧
  (∀ (d : Nat) (l0 l1 l3 l4 : Option Value) (s0 : Value) (x : Int32) (w : px_H) (Q : Option Value → px_H → Prop), wp d 119 71 [l0, l1, some (.int x), l3, l4] [s0] w 0 Q ↔ wp d 119 72 [l0, l1, some (.int x), l3, l4] [.int x, s0] w 0 Q) ∧
  (∀ (d : Nat) (l0 l1 l2 l4 : Option Value) (s0 s1 : Value) (x : Int32) (w : px_H) (Q : Option Value → px_H → Prop), wp d 119 72 [l0, l1, l2, some (.int x), l4] [s0, s1] w 0 Q ↔ wp d 119 73 [l0, l1, l2, some (.int x), l4] [.int x, s0, s1] w 0 Q) ∧
  (∀ (d : Nat) (l0 l1 l2 l3 l4 : Option Value) (v0 v1 : Value) (b : Nat) (w : px_H) (Q : Option Value → px_H → Prop), wp (d + 1) 119 73 [l0, l1, l2, l3, l4] [v1, v0, .ref b] w 0 Q ↔ px_op (px_tgt w b [(6, 73)]) (fun v => wc d v [.ref b, v0, v1] w (fun r w' => wp (d + 1) 119 76 [l0, l1, l2, l3, l4] (r.toList ++ []) w' 0 Q))) ∧
  (∀ (d : Nat) (l0 l1 l2 l3 l4 : Option Value) (x : Int32) (w : px_H) (Q : Option Value → px_H → Prop), wp d 119 76 [l0, l1, l2, l3, l4] [.int x] w 0 Q ↔ if x = 0 then wp d 119 79 [l0, l1, l2, l3, l4] [] w 0 Q else wp d 119 82 [l0, l1, l2, l3, l4] [] w 0 Q) ∧
  (∀ (d : Nat) (l0 l1 l2 l3 l4 : Option Value)  (w : px_H) (Q : Option Value → px_H → Prop), wp d 119 79 [l0, l1, l2, l3, l4] [] w 0 Q ↔ wp d 119 81 [l0, l1, l2, l3, l4] [.int (-1000001)] w 0 Q) ∧
  (∀ (d : Nat) (l0 l1 l2 l3 l4 : Option Value) (x : Int32) (w : px_H) (Q : Option Value → px_H → Prop), wp d 119 81 [l0, l1, l2, l3, l4] [.int x] w 0 Q ↔ Q (some (.int x)) w) ∧
  (∀ (d : Nat) (l1 l2 l3 l4 : Option Value) (a : Nat) (w : px_H) (Q : Option Value → px_H → Prop), wp d 119 82 [some (.ref a), l1, l2, l3, l4] [] w 0 Q ↔ wp d 119 83 [some (.ref a), l1, l2, l3, l4] [.ref a] w 0 Q) ∧
  (∀ (d : Nat) (l1 l2 l3 l4 : Option Value) (s0 : Value) (a : Nat) (w : px_H) (Q : Option Value → px_H → Prop), wp d 119 83 [some (.ref a), l1, l2, l3, l4] [s0] w 0 Q ↔ wp d 119 84 [some (.ref a), l1, l2, l3, l4] [.ref a, s0] w 0 Q) ∧
  (∀ (d : Nat) (l0 l1 l2 l3 l4 : Option Value) (s1 : Value) (a : Nat) (w : px_H) (Q : Option Value → px_H → Prop), wp d 119 84 [l0, l1, l2, l3, l4] [.ref a, s1] w 0 Q ↔ px_op (px_fld w a [(10, 0)] 5) (fun v => wp d 119 87 [l0, l1, l2, l3, l4] [v, s1] w 0 Q)) ∧
  (∀ (d : Nat) (l1 l2 l3 l4 : Option Value) (s0 s1 : Value) (a : Nat) (w : px_H) (Q : Option Value → px_H → Prop), wp d 119 87 [some (.ref a), l1, l2, l3, l4] [s0, s1] w 0 Q ↔ wp d 119 88 [some (.ref a), l1, l2, l3, l4] [.ref a, s0, s1] w 0 Q) ∧
  (∀ (d : Nat) (l0 l1 l2 l3 l4 : Option Value) (s1 s2 : Value) (a : Nat) (w : px_H) (Q : Option Value → px_H → Prop), wp d 119 88 [l0, l1, l2, l3, l4] [.ref a, s1, s2] w 0 Q ↔ px_op (px_fld w a [(10, 0)] 3) (fun v => wp d 119 91 [l0, l1, l2, l3, l4] [v, s1, s2] w 0 Q)) ∧
  (∀ (d : Nat) (l0 l1 l2 l3 : Option Value) (s0 s1 s2 : Value) (a : Nat) (w : px_H) (Q : Option Value → px_H → Prop), wp d 119 91 [l0, l1, l2, l3, some (.ref a)] [s0, s1, s2] w 0 Q ↔ wp d 119 93 [l0, l1, l2, l3, some (.ref a)] [.ref a, s0, s1, s2] w 0 Q) ∧
  (∀ (d : Nat) (l0 l1 l2 l3 : Option Value) (s0 s1 s2 : Value)  (w : px_H) (Q : Option Value → px_H → Prop), wp d 119 91 [l0, l1, l2, l3, some .null] [s0, s1, s2] w 0 Q ↔ wp d 119 93 [l0, l1, l2, l3, some .null] [.null, s0, s1, s2] w 0 Q) ∧
  (∀ (d : Nat) (l0 l1 l3 l4 : Option Value) (s0 s1 s2 s3 : Value) (x : Int32) (w : px_H) (Q : Option Value → px_H → Prop), wp d 119 93 [l0, l1, some (.int x), l3, l4] [s0, s1, s2, s3] w 0 Q ↔ wp d 119 94 [l0, l1, some (.int x), l3, l4] [.int x, s0, s1, s2, s3] w 0 Q) ∧
  (∀ (d : Nat) (l0 l1 l2 l4 : Option Value) (s0 s1 s2 s3 s4 : Value) (x : Int32) (w : px_H) (Q : Option Value → px_H → Prop), wp d 119 94 [l0, l1, l2, some (.int x), l4] [s0, s1, s2, s3, s4] w 0 Q ↔ wp d 119 95 [l0, l1, l2, some (.int x), l4] [.int x, s0, s1, s2, s3, s4] w 0 Q) ∧
  (∀ (d : Nat) (l0 l1 l2 l3 l4 : Option Value) (s5 : Value) (v0 v1 v2 v3 : Value) (b : Nat) (w : px_H) (Q : Option Value → px_H → Prop), wp (d + 1) 119 95 [l0, l1, l2, l3, l4] [v3, v2, v1, v0, .ref b, s5] w 0 Q ↔ px_op (px_tgt w b [(2, 23)]) (fun v => wc d v [.ref b, v0, v1, v2, v3] w (fun r w' => wp (d + 1) 119 98 [l0, l1, l2, l3, l4] (r.toList ++ [s5]) w' 0 Q))) ∧
  (∀ (d : Nat) (l0 l1 l2 l3 l4 : Option Value) (v0 : Value) (b : Nat) (w : px_H) (Q : Option Value → px_H → Prop), wp (d + 1) 119 98 [l0, l1, l2, l3, l4] [v0, .ref b] w 0 Q ↔ px_op (px_tgt w b [(10, 130)]) (fun v => wc d v [.ref b, v0] w (fun r w' => wp (d + 1) 119 101 [l0, l1, l2, l3, l4] (r.toList ++ []) w' 0 Q))) ∧
  (∀ (d : Nat) (l0 l1 l2 l3 l4 : Option Value) (x : Int32) (w : px_H) (Q : Option Value → px_H → Prop), wp d 119 101 [l0, l1, l2, l3, l4] [.int x] w 0 Q ↔ Q (some (.int x)) w) := ⟨fun d v0 v1 v2 v3 w Q => r_entry pt_119 (Nat.le_of_ble_eq_true rfl) rfl,
  fun d l1 l2 l3 l4 a w Q => px_go (q := (.aload_n 0, 1, px_x0)) (S' := (1, [some (.ref a), l1, l2, l3, l4], [.ref a], w, 0)) pt_119 rfl rfl,
  fun d l0 l1 l2 l3 l4 a w Q => px_goO (q := (.getfield 29, 3, (10, 3, [(10, 0)], 0, "AllSworn"))) (S' := fun v => (4, [l0, l1, l2, l3, l4], [v], w, 0)) pt_119 rfl rfl,
  fun d l0 l1 l2 l3 l4 b w Q => r_callV (q := (.invokevirtual 148, 3, (33, 0, [(5, 42)], 0, ""))) pt_119 rfl rfl (List.forall_mem_cons.mpr ⟨⟨_, pt_42, Nat.le_of_ble_eq_true rfl, (Nat.le_of_ble_eq_true rfl), rfl⟩, fun _ h => absurd h List.not_mem_nil⟩),
  fun d l0 l1 l2 l3 l4 x w Q => r_if_ne pt_119 rfl rfl,
  fun d l0 l1 l2 l3 l4 w Q => px_go (q := (.ldc 151, 2, (0, 0, [], (-1000002), ""))) (S' := (12, [l0, l1, l2, l3, l4], [.int (-1000002)], w, 0)) pt_119 rfl rfl,
  fun d l0 l1 l2 l3 l4 x w Q => px_ret (q := (.ireturn, 1, px_x0)) pt_119 rfl rfl,
  fun d l1 l2 l3 l4 a w Q => px_go (q := (.aload_n 0, 1, px_x0)) (S' := (14, [some (.ref a), l1, l2, l3, l4], [.ref a], w, 0)) pt_119 rfl rfl,
  fun d l0 l2 l3 l4 s0 x w Q => px_go (q := (.iload_n 1, 1, px_x0)) (S' := (15, [l0, some (.int x), l2, l3, l4], [.int x, s0], w, 0)) pt_119 rfl rfl,
  fun d l0 l1 l2 l3 l4 v0 b w Q => r_callV (q := (.invokevirtual 58, 3, (33, 1, [(10, 131)], 0, ""))) pt_119 rfl rfl (List.forall_mem_cons.mpr ⟨⟨_, pt_131, Nat.le_of_ble_eq_true rfl, (Nat.le_of_ble_eq_true rfl), rfl⟩, fun _ h => absurd h List.not_mem_nil⟩),
  fun d l0 l1 l2 l3 l4 a w Q => px_go (q := (.astore 4, 2, px_x0)) (S' := (20, [l0, l1, l2, l3, some (.ref a)], [], w, 0)) pt_119 rfl rfl,
  fun d l0 l1 l2 l3 l4 w Q => px_go (q := (.astore 4, 2, px_x0)) (S' := (20, [l0, l1, l2, l3, some .null], [], w, 0)) pt_119 rfl rfl,
  fun d l0 l1 l2 l3 a w Q => px_go (q := (.aload 4, 2, px_x0)) (S' := (22, [l0, l1, l2, l3, some (.ref a)], [.ref a], w, 0)) pt_119 rfl rfl,
  fun d l0 l1 l2 l3 w Q => px_go (q := (.aload 4, 2, px_x0)) (S' := (22, [l0, l1, l2, l3, some .null], [.null], w, 0)) pt_119 rfl rfl,
  fun d l0 l1 l2 l3 l4 w Q => r_ifnullN pt_119 rfl rfl,
  fun d l0 l1 l2 l3 l4 a w Q => px_go (q := (.ifnull 14, 3, px_x0)) (S' := (25, [l0, l1, l2, l3, l4], [], w, 0)) pt_119 rfl rfl,
  fun d l0 l1 l2 l4 x w Q => px_go (q := (.iload_n 3, 1, px_x0)) (S' := (26, [l0, l1, l2, some (.int x), l4], [.int x], w, 0)) pt_119 rfl rfl,
  fun d l0 l1 l2 l3 l4 s0 w Q => r_iconst pt_119 rfl (by decide),
  fun d l0 l1 l2 l3 l4 x y w Q => r_icmp_lt pt_119 rfl rfl,
  fun d l0 l1 l2 l4 x w Q => px_go (q := (.iload_n 3, 1, px_x0)) (S' := (31, [l0, l1, l2, some (.int x), l4], [.int x], w, 0)) pt_119 rfl rfl,
  fun d l0 l1 l2 l3 l4 s0 w Q => r_bipush pt_119 rfl (by decide),
  fun d l0 l1 l2 l3 l4 x y w Q => r_icmp_le pt_119 rfl rfl,
  fun d l0 l1 l2 l3 l4 w Q => px_go (q := (.ldc 62, 2, (0, 0, [], (-1000001), ""))) (S' := (38, [l0, l1, l2, l3, l4], [.int (-1000001)], w, 0)) pt_119 rfl rfl,
  fun d l0 l1 l2 l3 l4 x w Q => px_ret (q := (.ireturn, 1, px_x0)) pt_119 rfl rfl,
  fun d l0 l1 l2 l3 a w Q => px_go (q := (.aload 4, 2, px_x0)) (S' := (41, [l0, l1, l2, l3, some (.ref a)], [.ref a], w, 0)) pt_119 rfl rfl,
  fun d l0 l1 l2 l3 w Q => px_go (q := (.aload 4, 2, px_x0)) (S' := (41, [l0, l1, l2, l3, some .null], [.null], w, 0)) pt_119 rfl rfl,
  fun d l0 l1 l2 l3 l4 b w Q => r_callV (q := (.invokevirtual 74, 3, (33, 0, [(6, 67)], 0, ""))) pt_119 rfl rfl (List.forall_mem_cons.mpr ⟨⟨_, pt_67, Nat.le_of_ble_eq_true rfl, (Nat.le_of_ble_eq_true rfl), rfl⟩, fun _ h => absurd h List.not_mem_nil⟩),
  fun d l0 l1 l2 l3 l4 x w Q => r_if_eq pt_119 rfl rfl,
  fun d l1 l2 l3 l4 a w Q => px_go (q := (.aload_n 0, 1, px_x0)) (S' := (48, [some (.ref a), l1, l2, l3, l4], [.ref a], w, 0)) pt_119 rfl rfl,
  fun d l0 l1 l2 l3 l4 s0 w Q => r_iconst pt_119 rfl (by decide),
  fun d l0 l1 l2 l3 l4 v0 b w Q => r_callV (q := (.invokevirtual 63, 3, (33, 1, [(10, 129)], 0, ""))) pt_119 rfl rfl (List.forall_mem_cons.mpr ⟨⟨_, pt_129, Nat.le_of_ble_eq_true rfl, (Nat.le_of_ble_eq_true rfl), rfl⟩, fun _ h => absurd h List.not_mem_nil⟩),
  fun d l0 l1 l2 l3 l4 x w Q => px_ret (q := (.ireturn, 1, px_x0)) pt_119 rfl rfl,
  fun d l0 l1 l2 l3 a w Q => px_go (q := (.aload 4, 2, px_x0)) (S' := (55, [l0, l1, l2, l3, some (.ref a)], [.ref a], w, 0)) pt_119 rfl rfl,
  fun d l0 l1 l2 l3 w Q => px_go (q := (.aload 4, 2, px_x0)) (S' := (55, [l0, l1, l2, l3, some .null], [.null], w, 0)) pt_119 rfl rfl,
  fun d l0 l1 l3 l4 s0 x w Q => px_go (q := (.iload_n 2, 1, px_x0)) (S' := (56, [l0, l1, some (.int x), l3, l4], [.int x, s0], w, 0)) pt_119 rfl rfl,
  fun d l0 l1 l2 l4 s0 s1 x w Q => px_go (q := (.iload_n 3, 1, px_x0)) (S' := (57, [l0, l1, l2, some (.int x), l4], [.int x, s0, s1], w, 0)) pt_119 rfl rfl,
  fun d l0 l1 l2 l3 l4 v0 v1 b w Q => r_callV (q := (.invokevirtual 78, 3, (33, 2, [(6, 70)], 0, ""))) pt_119 rfl rfl (List.forall_mem_cons.mpr ⟨⟨_, pt_70, Nat.le_of_ble_eq_true rfl, (Nat.le_of_ble_eq_true rfl), rfl⟩, fun _ h => absurd h List.not_mem_nil⟩),
  fun d l0 l1 l2 l3 l4 x w Q => r_if_ne pt_119 rfl rfl,
  fun d l1 l2 l3 l4 a w Q => px_go (q := (.aload_n 0, 1, px_x0)) (S' := (64, [some (.ref a), l1, l2, l3, l4], [.ref a], w, 0)) pt_119 rfl rfl,
  fun d l0 l1 l2 l3 l4 s0 w Q => r_iconst pt_119 rfl (by decide),
  fun d l0 l1 l2 l3 l4 v0 b w Q => r_callV (q := (.invokevirtual 63, 3, (33, 1, [(10, 129)], 0, ""))) pt_119 rfl rfl (List.forall_mem_cons.mpr ⟨⟨_, pt_129, Nat.le_of_ble_eq_true rfl, (Nat.le_of_ble_eq_true rfl), rfl⟩, fun _ h => absurd h List.not_mem_nil⟩),
  fun d l0 l1 l2 l3 l4 x w Q => px_ret (q := (.ireturn, 1, px_x0)) pt_119 rfl rfl,
  fun d l0 l1 l2 l3 a w Q => px_go (q := (.aload 4, 2, px_x0)) (S' := (71, [l0, l1, l2, l3, some (.ref a)], [.ref a], w, 0)) pt_119 rfl rfl,
  fun d l0 l1 l2 l3 w Q => px_go (q := (.aload 4, 2, px_x0)) (S' := (71, [l0, l1, l2, l3, some .null], [.null], w, 0)) pt_119 rfl rfl,
  fun d l0 l1 l3 l4 s0 x w Q => px_go (q := (.iload_n 2, 1, px_x0)) (S' := (72, [l0, l1, some (.int x), l3, l4], [.int x, s0], w, 0)) pt_119 rfl rfl,
  fun d l0 l1 l2 l4 s0 s1 x w Q => px_go (q := (.iload_n 3, 1, px_x0)) (S' := (73, [l0, l1, l2, some (.int x), l4], [.int x, s0, s1], w, 0)) pt_119 rfl rfl,
  fun d l0 l1 l2 l3 l4 v0 v1 b w Q => r_callV (q := (.invokevirtual 247, 3, (33, 2, [(6, 73)], 0, ""))) pt_119 rfl rfl (List.forall_mem_cons.mpr ⟨⟨_, pt_73, Nat.le_of_ble_eq_true rfl, (Nat.le_of_ble_eq_true rfl), rfl⟩, fun _ h => absurd h List.not_mem_nil⟩),
  fun d l0 l1 l2 l3 l4 x w Q => r_if_ne pt_119 rfl rfl,
  fun d l0 l1 l2 l3 l4 w Q => px_go (q := (.ldc 62, 2, (0, 0, [], (-1000001), ""))) (S' := (81, [l0, l1, l2, l3, l4], [.int (-1000001)], w, 0)) pt_119 rfl rfl,
  fun d l0 l1 l2 l3 l4 x w Q => px_ret (q := (.ireturn, 1, px_x0)) pt_119 rfl rfl,
  fun d l1 l2 l3 l4 a w Q => px_go (q := (.aload_n 0, 1, px_x0)) (S' := (83, [some (.ref a), l1, l2, l3, l4], [.ref a], w, 0)) pt_119 rfl rfl,
  fun d l1 l2 l3 l4 s0 a w Q => px_go (q := (.aload_n 0, 1, px_x0)) (S' := (84, [some (.ref a), l1, l2, l3, l4], [.ref a, s0], w, 0)) pt_119 rfl rfl,
  fun d l0 l1 l2 l3 l4 s1 a w Q => px_goO (q := (.getfield 39, 3, (10, 5, [(10, 0)], 0, "AllSworn"))) (S' := fun v => (87, [l0, l1, l2, l3, l4], [v, s1], w, 0)) pt_119 rfl rfl,
  fun d l1 l2 l3 l4 s0 s1 a w Q => px_go (q := (.aload_n 0, 1, px_x0)) (S' := (88, [some (.ref a), l1, l2, l3, l4], [.ref a, s0, s1], w, 0)) pt_119 rfl rfl,
  fun d l0 l1 l2 l3 l4 s1 s2 a w Q => px_goO (q := (.getfield 29, 3, (10, 3, [(10, 0)], 0, "AllSworn"))) (S' := fun v => (91, [l0, l1, l2, l3, l4], [v, s1, s2], w, 0)) pt_119 rfl rfl,
  fun d l0 l1 l2 l3 s0 s1 s2 a w Q => px_go (q := (.aload 4, 2, px_x0)) (S' := (93, [l0, l1, l2, l3, some (.ref a)], [.ref a, s0, s1, s2], w, 0)) pt_119 rfl rfl,
  fun d l0 l1 l2 l3 s0 s1 s2 w Q => px_go (q := (.aload 4, 2, px_x0)) (S' := (93, [l0, l1, l2, l3, some .null], [.null, s0, s1, s2], w, 0)) pt_119 rfl rfl,
  fun d l0 l1 l3 l4 s0 s1 s2 s3 x w Q => px_go (q := (.iload_n 2, 1, px_x0)) (S' := (94, [l0, l1, some (.int x), l3, l4], [.int x, s0, s1, s2, s3], w, 0)) pt_119 rfl rfl,
  fun d l0 l1 l2 l4 s0 s1 s2 s3 s4 x w Q => px_go (q := (.iload_n 3, 1, px_x0)) (S' := (95, [l0, l1, l2, some (.int x), l4], [.int x, s0, s1, s2, s3, s4], w, 0)) pt_119 rfl rfl,
  fun d l0 l1 l2 l3 l4 s5 v0 v1 v2 v3 b w Q => r_callV (q := (.invokevirtual 250, 3, (33, 4, [(2, 23)], 0, ""))) pt_119 rfl rfl (List.forall_mem_cons.mpr ⟨⟨_, pt_23, Nat.le_of_ble_eq_true rfl, (Nat.le_of_ble_eq_true rfl), rfl⟩, fun _ h => absurd h List.not_mem_nil⟩),
  fun d l0 l1 l2 l3 l4 v0 b w Q => r_callV (q := (.invokevirtual 71, 3, (33, 1, [(10, 130)], 0, ""))) pt_119 rfl rfl (List.forall_mem_cons.mpr ⟨⟨_, pt_130, Nat.le_of_ble_eq_true rfl, (Nat.le_of_ble_eq_true rfl), rfl⟩, fun _ h => absurd h List.not_mem_nil⟩),
  fun d l0 l1 l2 l3 l4 x w Q => px_ret (q := (.ireturn, 1, px_x0)) pt_119 rfl rfl⟩
/-- AllSworn.terms()I -/
theorem S120 : (∀ (d : Nat) (v0 : Value) (w : px_H) (Q : Option Value → px_H → Prop), wc d 120 [v0] w Q ↔ wp d 120 0 [some v0] [] w 0 Q) ∧
  (∀ (d : Nat) (a : Nat) (w : px_H) (Q : Option Value → px_H → Prop), wp d 120 0 [some (.ref a)] [] w 0 Q ↔ wp d 120 1 [some (.ref a)] [.ref a] w 0 Q) ∧
  (∀ (d : Nat) (l0 : Option Value) (a : Nat) (w : px_H) (Q : Option Value → px_H → Prop), wp d 120 1 [l0] [.ref a] w 0 Q ↔ px_op (px_fld w a [(10, 0)] 3) (fun v => wp d 120 4 [l0] [v] w 0 Q)) ∧
  (∀ (d : Nat) (l0 : Option Value)  (b : Nat) (w : px_H) (Q : Option Value → px_H → Prop), wp (d + 1) 120 4 [l0] [.ref b] w 0 Q ↔ px_op (px_tgt w b [(5, 42)]) (fun v => wc d v [.ref b] w (fun r w' => wp (d + 1) 120 7 [l0] (r.toList ++ []) w' 0 Q))) ∧
  (∀ (d : Nat) (l0 : Option Value) (x : Int32) (w : px_H) (Q : Option Value → px_H → Prop), wp d 120 7 [l0] [.int x] w 0 Q ↔ if x = 0 then wp d 120 24 [l0] [] w 0 Q else wp d 120 10 [l0] [] w 0 Q) ∧
  (∀ (d : Nat) (a : Nat) (w : px_H) (Q : Option Value → px_H → Prop), wp d 120 10 [some (.ref a)] [] w 0 Q ↔ wp d 120 11 [some (.ref a)] [.ref a] w 0 Q) ∧
  (∀ (d : Nat) (l0 : Option Value) (a : Nat) (w : px_H) (Q : Option Value → px_H → Prop), wp d 120 11 [l0] [.ref a] w 0 Q ↔ px_op (px_fld w a [(10, 0)] 5) (fun v => wp d 120 14 [l0] [v] w 0 Q)) ∧
  (∀ (d : Nat) (s0 : Value) (a : Nat) (w : px_H) (Q : Option Value → px_H → Prop), wp d 120 14 [some (.ref a)] [s0] w 0 Q ↔ wp d 120 15 [some (.ref a)] [.ref a, s0] w 0 Q) ∧
  (∀ (d : Nat) (l0 : Option Value) (s1 : Value) (a : Nat) (w : px_H) (Q : Option Value → px_H → Prop), wp d 120 15 [l0] [.ref a, s1] w 0 Q ↔ px_op (px_fld w a [(10, 0)] 3) (fun v => wp d 120 18 [l0] [v, s1] w 0 Q)) ∧
  (∀ (d : Nat) (l0 : Option Value) (v0 : Value) (b : Nat) (w : px_H) (Q : Option Value → px_H → Prop), wp (d + 1) 120 18 [l0] [v0, .ref b] w 0 Q ↔ px_op (px_tgt w b [(2, 24)]) (fun v => wc d v [.ref b, v0] w (fun r w' => wp (d + 1) 120 21 [l0] (r.toList ++ []) w' 0 Q))) ∧
  (∀ (d : Nat) (l0 : Option Value) (s0 : Value)  (w : px_H) (Q : Option Value → px_H → Prop), wp d 120 21 [l0] [s0] w 0 Q ↔ wp d 120 26 [l0] [s0] w 0 Q) ∧
  (∀ (d : Nat) (l0 : Option Value)  (w : px_H) (Q : Option Value → px_H → Prop), wp d 120 24 [l0] [] w 0 Q ↔ wp d 120 26 [l0] [.int (-1000002)] w 0 Q) ∧
  (∀ (d : Nat) (l0 : Option Value) (x : Int32) (w : px_H) (Q : Option Value → px_H → Prop), wp d 120 26 [l0] [.int x] w 0 Q ↔ Q (some (.int x)) w) := ⟨fun d v0 w Q => r_entry pt_120 (Nat.le_of_ble_eq_true rfl) rfl,
  fun d a w Q => px_go (q := (.aload_n 0, 1, px_x0)) (S' := (1, [some (.ref a)], [.ref a], w, 0)) pt_120 rfl rfl,
  fun d l0 a w Q => px_goO (q := (.getfield 29, 3, (10, 3, [(10, 0)], 0, "AllSworn"))) (S' := fun v => (4, [l0], [v], w, 0)) pt_120 rfl rfl,
  fun d l0 b w Q => r_callV (q := (.invokevirtual 148, 3, (33, 0, [(5, 42)], 0, ""))) pt_120 rfl rfl (List.forall_mem_cons.mpr ⟨⟨_, pt_42, Nat.le_of_ble_eq_true rfl, (Nat.le_of_ble_eq_true rfl), rfl⟩, fun _ h => absurd h List.not_mem_nil⟩),
  fun d l0 x w Q => r_if_eq pt_120 rfl rfl,
  fun d a w Q => px_go (q := (.aload_n 0, 1, px_x0)) (S' := (11, [some (.ref a)], [.ref a], w, 0)) pt_120 rfl rfl,
  fun d l0 a w Q => px_goO (q := (.getfield 39, 3, (10, 5, [(10, 0)], 0, "AllSworn"))) (S' := fun v => (14, [l0], [v], w, 0)) pt_120 rfl rfl,
  fun d s0 a w Q => px_go (q := (.aload_n 0, 1, px_x0)) (S' := (15, [some (.ref a)], [.ref a, s0], w, 0)) pt_120 rfl rfl,
  fun d l0 s1 a w Q => px_goO (q := (.getfield 29, 3, (10, 3, [(10, 0)], 0, "AllSworn"))) (S' := fun v => (18, [l0], [v, s1], w, 0)) pt_120 rfl rfl,
  fun d l0 v0 b w Q => r_callV (q := (.invokevirtual 254, 3, (33, 1, [(2, 24)], 0, ""))) pt_120 rfl rfl (List.forall_mem_cons.mpr ⟨⟨_, pt_24, Nat.le_of_ble_eq_true rfl, (Nat.le_of_ble_eq_true rfl), rfl⟩, fun _ h => absurd h List.not_mem_nil⟩),
  fun d l0 s0 w Q => r_goto pt_120 rfl rfl,
  fun d l0 w Q => px_go (q := (.ldc 151, 2, (0, 0, [], (-1000002), ""))) (S' := (26, [l0], [.int (-1000002)], w, 0)) pt_120 rfl rfl,
  fun d l0 x w Q => px_ret (q := (.ireturn, 1, px_x0)) pt_120 rfl rfl⟩
/-- AllSworn.image(I)I -/
theorem S121 : (∀ (d : Nat) (v0 v1 : Value) (w : px_H) (Q : Option Value → px_H → Prop), wc d 121 [v0, v1] w Q ↔ wp d 121 0 [some v0, some v1, none] [] w 0 Q) ∧
  (∀ (d : Nat) (l1 l2 : Option Value) (a : Nat) (w : px_H) (Q : Option Value → px_H → Prop), wp d 121 0 [some (.ref a), l1, l2] [] w 0 Q ↔ wp d 121 1 [some (.ref a), l1, l2] [.ref a] w 0 Q) ∧
  (∀ (d : Nat) (l0 l2 : Option Value) (s0 : Value) (x : Int32) (w : px_H) (Q : Option Value → px_H → Prop), wp d 121 1 [l0, some (.int x), l2] [s0] w 0 Q ↔ wp d 121 2 [l0, some (.int x), l2] [.int x, s0] w 0 Q) ∧
  (∀ (d : Nat) (l0 l1 l2 : Option Value) (v0 : Value) (b : Nat) (w : px_H) (Q : Option Value → px_H → Prop), wp (d + 1) 121 2 [l0, l1, l2] [v0, .ref b] w 0 Q ↔ px_op (px_tgt w b [(10, 132)]) (fun v => wc d v [.ref b, v0] w (fun r w' => wp (d + 1) 121 5 [l0, l1, l2] (r.toList ++ []) w' 0 Q))) ∧
  (∀ (d : Nat) (l0 l1 l2 : Option Value) (a : Nat) (w : px_H) (Q : Option Value → px_H → Prop), wp d 121 5 [l0, l1, l2] [.ref a] w 0 Q ↔ wp d 121 6 [l0, l1, some (.ref a)] [] w 0 Q) ∧
  (∀ (d : Nat) (l0 l1 l2 : Option Value)  (w : px_H) (Q : Option Value → px_H → Prop), wp d 121 5 [l0, l1, l2] [.null] w 0 Q ↔ wp d 121 6 [l0, l1, some .null] [] w 0 Q) ∧
  (∀ (d : Nat) (l0 l1 : Option Value) (a : Nat) (w : px_H) (Q : Option Value → px_H → Prop), wp d 121 6 [l0, l1, some (.ref a)] [] w 0 Q ↔ wp d 121 7 [l0, l1, some (.ref a)] [.ref a] w 0 Q) ∧
  (∀ (d : Nat) (l0 l1 : Option Value)  (w : px_H) (Q : Option Value → px_H → Prop), wp d 121 6 [l0, l1, some .null] [] w 0 Q ↔ wp d 121 7 [l0, l1, some .null] [.null] w 0 Q) ∧
  (∀ (d : Nat) (l0 l1 l2 : Option Value) (a : Nat) (w : px_H) (Q : Option Value → px_H → Prop), wp d 121 7 [l0, l1, l2] [.ref a] w 0 Q ↔ wp d 121 13 [l0, l1, l2] [] w 0 Q) ∧
  (∀ (d : Nat) (l0 l1 l2 : Option Value)  (w : px_H) (Q : Option Value → px_H → Prop), wp d 121 7 [l0, l1, l2] [.null] w 0 Q ↔ wp d 121 10 [l0, l1, l2] [] w 0 Q) ∧
  (∀ (d : Nat) (l0 l1 l2 : Option Value)  (w : px_H) (Q : Option Value → px_H → Prop), wp d 121 10 [l0, l1, l2] [] w 0 Q ↔ wp d 121 12 [l0, l1, l2] [.int (-1000001)] w 0 Q) ∧
  (∀ (d : Nat) (l0 l1 l2 : Option Value) (x : Int32) (w : px_H) (Q : Option Value → px_H → Prop), wp d 121 12 [l0, l1, l2] [.int x] w 0 Q ↔ Q (some (.int x)) w) ∧
  (∀ (d : Nat) (l1 l2 : Option Value) (a : Nat) (w : px_H) (Q : Option Value → px_H → Prop), wp d 121 13 [some (.ref a), l1, l2] [] w 0 Q ↔ wp d 121 14 [some (.ref a), l1, l2] [.ref a] w 0 Q) ∧
  (∀ (d : Nat) (l0 l1 l2 : Option Value) (a : Nat) (w : px_H) (Q : Option Value → px_H → Prop), wp d 121 14 [l0, l1, l2] [.ref a] w 0 Q ↔ px_op (px_fld w a [(10, 0)] 3) (fun v => wp d 121 17 [l0, l1, l2] [v] w 0 Q)) ∧
  (∀ (d : Nat) (l0 l1 l2 : Option Value)  (b : Nat) (w : px_H) (Q : Option Value → px_H → Prop), wp (d + 1) 121 17 [l0, l1, l2] [.ref b] w 0 Q ↔ px_op (px_tgt w b [(5, 42)]) (fun v => wc d v [.ref b] w (fun r w' => wp (d + 1) 121 20 [l0, l1, l2] (r.toList ++ []) w' 0 Q))) ∧
  (∀ (d : Nat) (l0 l1 l2 : Option Value) (x : Int32) (w : px_H) (Q : Option Value → px_H → Prop), wp d 121 20 [l0, l1, l2] [.int x] w 0 Q ↔ if x = 0 then wp d 121 23 [l0, l1, l2] [] w 0 Q else wp d 121 26 [l0, l1, l2] [] w 0 Q) ∧
  (∀ (d : Nat) (l0 l1 l2 : Option Value)  (w : px_H) (Q : Option Value → px_H → Prop), wp d 121 23 [l0, l1, l2] [] w 0 Q ↔ wp d 121 25 [l0, l1, l2] [.int (-1000002)] w 0 Q) ∧
  (∀ (d : Nat) (l0 l1 l2 : Option Value) (x : Int32) (w : px_H) (Q : Option Value → px_H → Prop), wp d 121 25 [l0, l1, l2] [.int x] w 0 Q ↔ Q (some (.int x)) w) ∧
  (∀ (d : Nat) (l0 l1 : Option Value) (a : Nat) (w : px_H) (Q : Option Value → px_H → Prop), wp d 121 26 [l0, l1, some (.ref a)] [] w 0 Q ↔ wp d 121 27 [l0, l1, some (.ref a)] [.ref a] w 0 Q) ∧
  (∀ (d : Nat) (l0 l1 : Option Value)  (w : px_H) (Q : Option Value → px_H → Prop), wp d 121 26 [l0, l1, some .null] [] w 0 Q ↔ wp d 121 27 [l0, l1, some .null] [.null] w 0 Q) ∧
  (∀ (d : Nat) (l1 l2 : Option Value) (s0 : Value) (a : Nat) (w : px_H) (Q : Option Value → px_H → Prop), wp d 121 27 [some (.ref a), l1, l2] [s0] w 0 Q ↔ wp d 121 28 [some (.ref a), l1, l2] [.ref a, s0] w 0 Q) ∧
  (∀ (d : Nat) (l0 l1 l2 : Option Value) (s1 : Value) (a : Nat) (w : px_H) (Q : Option Value → px_H → Prop), wp d 121 28 [l0, l1, l2] [.ref a, s1] w 0 Q ↔ px_op (px_fld w a [(10, 0)] 3) (fun v => wp d 121 31 [l0, l1, l2] [v, s1] w 0 Q)) ∧
  (∀ (d : Nat) (l0 l1 l2 : Option Value) (v0 : Value) (b : Nat) (w : px_H) (Q : Option Value → px_H → Prop), wp (d + 1) 121 31 [l0, l1, l2] [v0, .ref b] w 0 Q ↔ px_op (px_tgt w b [(5, 46)]) (fun v => wc d v [.ref b, v0] w (fun r w' => wp (d + 1) 121 34 [l0, l1, l2] (r.toList ++ []) w' 0 Q))) ∧
  (∀ (d : Nat) (l0 l1 l2 : Option Value)  (w : px_H) (Q : Option Value → px_H → Prop), wp d 121 34 [l0, l1, l2] [] w 0 Q ↔ wp d 121 35 [l0, l1, l2] [.int 1] w 0 Q) ∧
  (∀ (d : Nat) (l0 l1 l2 : Option Value) (x : Int32) (w : px_H) (Q : Option Value → px_H → Prop), wp d 121 35 [l0, l1, l2] [.int x] w 0 Q ↔ Q (some (.int x)) w) := ⟨fun d v0 v1 w Q => r_entry pt_121 (Nat.le_of_ble_eq_true rfl) rfl,
  fun d l1 l2 a w Q => px_go (q := (.aload_n 0, 1, px_x0)) (S' := (1, [some (.ref a), l1, l2], [.ref a], w, 0)) pt_121 rfl rfl,
  fun d l0 l2 s0 x w Q => px_go (q := (.iload_n 1, 1, px_x0)) (S' := (2, [l0, some (.int x), l2], [.int x, s0], w, 0)) pt_121 rfl rfl,
  fun d l0 l1 l2 v0 b w Q => r_callV (q := (.invokevirtual 257, 3, (33, 1, [(10, 132)], 0, ""))) pt_121 rfl rfl (List.forall_mem_cons.mpr ⟨⟨_, pt_132, Nat.le_of_ble_eq_true rfl, (Nat.le_of_ble_eq_true rfl), rfl⟩, fun _ h => absurd h List.not_mem_nil⟩),
  fun d l0 l1 l2 a w Q => px_go (q := (.astore_n 2, 1, px_x0)) (S' := (6, [l0, l1, some (.ref a)], [], w, 0)) pt_121 rfl rfl,
  fun d l0 l1 l2 w Q => px_go (q := (.astore_n 2, 1, px_x0)) (S' := (6, [l0, l1, some .null], [], w, 0)) pt_121 rfl rfl,
  fun d l0 l1 a w Q => px_go (q := (.aload_n 2, 1, px_x0)) (S' := (7, [l0, l1, some (.ref a)], [.ref a], w, 0)) pt_121 rfl rfl,
  fun d l0 l1 w Q => px_go (q := (.aload_n 2, 1, px_x0)) (S' := (7, [l0, l1, some .null], [.null], w, 0)) pt_121 rfl rfl,
  fun d l0 l1 l2 a w Q => r_ifnonnull pt_121 rfl rfl,
  fun d l0 l1 l2 w Q => px_go (q := (.ifnonnull 6, 3, px_x0)) (S' := (10, [l0, l1, l2], [], w, 0)) pt_121 rfl rfl,
  fun d l0 l1 l2 w Q => px_go (q := (.ldc 62, 2, (0, 0, [], (-1000001), ""))) (S' := (12, [l0, l1, l2], [.int (-1000001)], w, 0)) pt_121 rfl rfl,
  fun d l0 l1 l2 x w Q => px_ret (q := (.ireturn, 1, px_x0)) pt_121 rfl rfl,
  fun d l1 l2 a w Q => px_go (q := (.aload_n 0, 1, px_x0)) (S' := (14, [some (.ref a), l1, l2], [.ref a], w, 0)) pt_121 rfl rfl,
  fun d l0 l1 l2 a w Q => px_goO (q := (.getfield 29, 3, (10, 3, [(10, 0)], 0, "AllSworn"))) (S' := fun v => (17, [l0, l1, l2], [v], w, 0)) pt_121 rfl rfl,
  fun d l0 l1 l2 b w Q => r_callV (q := (.invokevirtual 148, 3, (33, 0, [(5, 42)], 0, ""))) pt_121 rfl rfl (List.forall_mem_cons.mpr ⟨⟨_, pt_42, Nat.le_of_ble_eq_true rfl, (Nat.le_of_ble_eq_true rfl), rfl⟩, fun _ h => absurd h List.not_mem_nil⟩),
  fun d l0 l1 l2 x w Q => r_if_ne pt_121 rfl rfl,
  fun d l0 l1 l2 w Q => px_go (q := (.ldc 151, 2, (0, 0, [], (-1000002), ""))) (S' := (25, [l0, l1, l2], [.int (-1000002)], w, 0)) pt_121 rfl rfl,
  fun d l0 l1 l2 x w Q => px_ret (q := (.ireturn, 1, px_x0)) pt_121 rfl rfl,
  fun d l0 l1 a w Q => px_go (q := (.aload_n 2, 1, px_x0)) (S' := (27, [l0, l1, some (.ref a)], [.ref a], w, 0)) pt_121 rfl rfl,
  fun d l0 l1 w Q => px_go (q := (.aload_n 2, 1, px_x0)) (S' := (27, [l0, l1, some .null], [.null], w, 0)) pt_121 rfl rfl,
  fun d l1 l2 s0 a w Q => px_go (q := (.aload_n 0, 1, px_x0)) (S' := (28, [some (.ref a), l1, l2], [.ref a, s0], w, 0)) pt_121 rfl rfl,
  fun d l0 l1 l2 s1 a w Q => px_goO (q := (.getfield 29, 3, (10, 3, [(10, 0)], 0, "AllSworn"))) (S' := fun v => (31, [l0, l1, l2], [v, s1], w, 0)) pt_121 rfl rfl,
  fun d l0 l1 l2 v0 b w Q => r_callV (q := (.invokevirtual 118, 3, (33, 1, [(5, 46)], 0, ""))) pt_121 rfl rfl (List.forall_mem_cons.mpr ⟨⟨_, pt_46, Nat.le_of_ble_eq_true rfl, (Nat.le_of_ble_eq_true rfl), rfl⟩, fun _ h => absurd h List.not_mem_nil⟩),
  fun d l0 l1 l2 w Q => r_iconst pt_121 rfl (by decide),
  fun d l0 l1 l2 x w Q => px_ret (q := (.ireturn, 1, px_x0)) pt_121 rfl rfl⟩
/-- AllSworn.restore(I)I -/
theorem S122 : (∀ (d : Nat) (v0 v1 : Value) (w : px_H) (Q : Option Value → px_H → Prop), wc d 122 [v0, v1] w Q ↔ wp d 122 0 [some v0, some v1, none] [] w 0 Q) ∧
  (∀ (d : Nat) (l1 l2 : Option Value) (a : Nat) (w : px_H) (Q : Option Value → px_H → Prop), wp d 122 0 [some (.ref a), l1, l2] [] w 0 Q ↔ wp d 122 1 [some (.ref a), l1, l2] [.ref a] w 0 Q) ∧
  (∀ (d : Nat) (l0 l2 : Option Value) (s0 : Value) (x : Int32) (w : px_H) (Q : Option Value → px_H → Prop), wp d 122 1 [l0, some (.int x), l2] [s0] w 0 Q ↔ wp d 122 2 [l0, some (.int x), l2] [.int x, s0] w 0 Q) ∧
  (∀ (d : Nat) (l0 l1 l2 : Option Value) (v0 : Value) (b : Nat) (w : px_H) (Q : Option Value → px_H → Prop), wp (d + 1) 122 2 [l0, l1, l2] [v0, .ref b] w 0 Q ↔ px_op (px_tgt w b [(10, 132)]) (fun v => wc d v [.ref b, v0] w (fun r w' => wp (d + 1) 122 5 [l0, l1, l2] (r.toList ++ []) w' 0 Q))) ∧
  (∀ (d : Nat) (l0 l1 l2 : Option Value) (a : Nat) (w : px_H) (Q : Option Value → px_H → Prop), wp d 122 5 [l0, l1, l2] [.ref a] w 0 Q ↔ wp d 122 6 [l0, l1, some (.ref a)] [] w 0 Q) ∧
  (∀ (d : Nat) (l0 l1 l2 : Option Value)  (w : px_H) (Q : Option Value → px_H → Prop), wp d 122 5 [l0, l1, l2] [.null] w 0 Q ↔ wp d 122 6 [l0, l1, some .null] [] w 0 Q) ∧
  (∀ (d : Nat) (l0 l1 : Option Value) (a : Nat) (w : px_H) (Q : Option Value → px_H → Prop), wp d 122 6 [l0, l1, some (.ref a)] [] w 0 Q ↔ wp d 122 7 [l0, l1, some (.ref a)] [.ref a] w 0 Q) ∧
  (∀ (d : Nat) (l0 l1 : Option Value)  (w : px_H) (Q : Option Value → px_H → Prop), wp d 122 6 [l0, l1, some .null] [] w 0 Q ↔ wp d 122 7 [l0, l1, some .null] [.null] w 0 Q) ∧
  (∀ (d : Nat) (l0 l1 l2 : Option Value) (a : Nat) (w : px_H) (Q : Option Value → px_H → Prop), wp d 122 7 [l0, l1, l2] [.ref a] w 0 Q ↔ wp d 122 13 [l0, l1, l2] [] w 0 Q) ∧
  (∀ (d : Nat) (l0 l1 l2 : Option Value)  (w : px_H) (Q : Option Value → px_H → Prop), wp d 122 7 [l0, l1, l2] [.null] w 0 Q ↔ wp d 122 10 [l0, l1, l2] [] w 0 Q) ∧
  (∀ (d : Nat) (l0 l1 l2 : Option Value)  (w : px_H) (Q : Option Value → px_H → Prop), wp d 122 10 [l0, l1, l2] [] w 0 Q ↔ wp d 122 12 [l0, l1, l2] [.int (-1000001)] w 0 Q) ∧
  (∀ (d : Nat) (l0 l1 l2 : Option Value) (x : Int32) (w : px_H) (Q : Option Value → px_H → Prop), wp d 122 12 [l0, l1, l2] [.int x] w 0 Q ↔ Q (some (.int x)) w) ∧
  (∀ (d : Nat) (l0 l1 : Option Value) (a : Nat) (w : px_H) (Q : Option Value → px_H → Prop), wp d 122 13 [l0, l1, some (.ref a)] [] w 0 Q ↔ wp d 122 14 [l0, l1, some (.ref a)] [.ref a] w 0 Q) ∧
  (∀ (d : Nat) (l0 l1 : Option Value)  (w : px_H) (Q : Option Value → px_H → Prop), wp d 122 13 [l0, l1, some .null] [] w 0 Q ↔ wp d 122 14 [l0, l1, some .null] [.null] w 0 Q) ∧
  (∀ (d : Nat) (l0 l1 l2 : Option Value)  (b : Nat) (w : px_H) (Q : Option Value → px_H → Prop), wp (d + 1) 122 14 [l0, l1, l2] [.ref b] w 0 Q ↔ px_op (px_tgt w b [(5, 42)]) (fun v => wc d v [.ref b] w (fun r w' => wp (d + 1) 122 17 [l0, l1, l2] (r.toList ++ []) w' 0 Q))) ∧
  (∀ (d : Nat) (l0 l1 l2 : Option Value) (x : Int32) (w : px_H) (Q : Option Value → px_H → Prop), wp d 122 17 [l0, l1, l2] [.int x] w 0 Q ↔ if x = 0 then wp d 122 20 [l0, l1, l2] [] w 0 Q else wp d 122 23 [l0, l1, l2] [] w 0 Q) ∧
  (∀ (d : Nat) (l0 l1 l2 : Option Value)  (w : px_H) (Q : Option Value → px_H → Prop), wp d 122 20 [l0, l1, l2] [] w 0 Q ↔ wp d 122 22 [l0, l1, l2] [.int (-1000002)] w 0 Q) ∧
  (∀ (d : Nat) (l0 l1 l2 : Option Value) (x : Int32) (w : px_H) (Q : Option Value → px_H → Prop), wp d 122 22 [l0, l1, l2] [.int x] w 0 Q ↔ Q (some (.int x)) w) ∧
  (∀ (d : Nat) (l1 l2 : Option Value) (a : Nat) (w : px_H) (Q : Option Value → px_H → Prop), wp d 122 23 [some (.ref a), l1, l2] [] w 0 Q ↔ wp d 122 24 [some (.ref a), l1, l2] [.ref a] w 0 Q) ∧
  (∀ (d : Nat) (l0 l1 l2 : Option Value) (a : Nat) (w : px_H) (Q : Option Value → px_H → Prop), wp d 122 24 [l0, l1, l2] [.ref a] w 0 Q ↔ px_op (px_fld w a [(10, 0)] 3) (fun v => wp d 122 27 [l0, l1, l2] [v] w 0 Q)) ∧
  (∀ (d : Nat) (l0 l1 : Option Value) (s0 : Value) (a : Nat) (w : px_H) (Q : Option Value → px_H → Prop), wp d 122 27 [l0, l1, some (.ref a)] [s0] w 0 Q ↔ wp d 122 28 [l0, l1, some (.ref a)] [.ref a, s0] w 0 Q) ∧
  (∀ (d : Nat) (l0 l1 : Option Value) (s0 : Value)  (w : px_H) (Q : Option Value → px_H → Prop), wp d 122 27 [l0, l1, some .null] [s0] w 0 Q ↔ wp d 122 28 [l0, l1, some .null] [.null, s0] w 0 Q) ∧
  (∀ (d : Nat) (l0 l1 l2 : Option Value) (v0 : Value) (b : Nat) (w : px_H) (Q : Option Value → px_H → Prop), wp (d + 1) 122 28 [l0, l1, l2] [v0, .ref b] w 0 Q ↔ px_op (px_tgt w b [(5, 46)]) (fun v => wc d v [.ref b, v0] w (fun r w' => wp (d + 1) 122 31 [l0, l1, l2] (r.toList ++ []) w' 0 Q))) ∧
  (∀ (d : Nat) (l0 l1 l2 : Option Value)  (w : px_H) (Q : Option Value → px_H → Prop), wp d 122 31 [l0, l1, l2] [] w 0 Q ↔ wp d 122 32 [l0, l1, l2] [.int 1] w 0 Q) ∧
  (∀ (d : Nat) (l0 l1 l2 : Option Value) (x : Int32) (w : px_H) (Q : Option Value → px_H → Prop), wp d 122 32 [l0, l1, l2] [.int x] w 0 Q ↔ Q (some (.int x)) w) := ⟨fun d v0 v1 w Q => r_entry pt_122 (Nat.le_of_ble_eq_true rfl) rfl,
  fun d l1 l2 a w Q => px_go (q := (.aload_n 0, 1, px_x0)) (S' := (1, [some (.ref a), l1, l2], [.ref a], w, 0)) pt_122 rfl rfl,
  fun d l0 l2 s0 x w Q => px_go (q := (.iload_n 1, 1, px_x0)) (S' := (2, [l0, some (.int x), l2], [.int x, s0], w, 0)) pt_122 rfl rfl,
  fun d l0 l1 l2 v0 b w Q => r_callV (q := (.invokevirtual 257, 3, (33, 1, [(10, 132)], 0, ""))) pt_122 rfl rfl (List.forall_mem_cons.mpr ⟨⟨_, pt_132, Nat.le_of_ble_eq_true rfl, (Nat.le_of_ble_eq_true rfl), rfl⟩, fun _ h => absurd h List.not_mem_nil⟩),
  fun d l0 l1 l2 a w Q => px_go (q := (.astore_n 2, 1, px_x0)) (S' := (6, [l0, l1, some (.ref a)], [], w, 0)) pt_122 rfl rfl,
  fun d l0 l1 l2 w Q => px_go (q := (.astore_n 2, 1, px_x0)) (S' := (6, [l0, l1, some .null], [], w, 0)) pt_122 rfl rfl,
  fun d l0 l1 a w Q => px_go (q := (.aload_n 2, 1, px_x0)) (S' := (7, [l0, l1, some (.ref a)], [.ref a], w, 0)) pt_122 rfl rfl,
  fun d l0 l1 w Q => px_go (q := (.aload_n 2, 1, px_x0)) (S' := (7, [l0, l1, some .null], [.null], w, 0)) pt_122 rfl rfl,
  fun d l0 l1 l2 a w Q => r_ifnonnull pt_122 rfl rfl,
  fun d l0 l1 l2 w Q => px_go (q := (.ifnonnull 6, 3, px_x0)) (S' := (10, [l0, l1, l2], [], w, 0)) pt_122 rfl rfl,
  fun d l0 l1 l2 w Q => px_go (q := (.ldc 62, 2, (0, 0, [], (-1000001), ""))) (S' := (12, [l0, l1, l2], [.int (-1000001)], w, 0)) pt_122 rfl rfl,
  fun d l0 l1 l2 x w Q => px_ret (q := (.ireturn, 1, px_x0)) pt_122 rfl rfl,
  fun d l0 l1 a w Q => px_go (q := (.aload_n 2, 1, px_x0)) (S' := (14, [l0, l1, some (.ref a)], [.ref a], w, 0)) pt_122 rfl rfl,
  fun d l0 l1 w Q => px_go (q := (.aload_n 2, 1, px_x0)) (S' := (14, [l0, l1, some .null], [.null], w, 0)) pt_122 rfl rfl,
  fun d l0 l1 l2 b w Q => r_callV (q := (.invokevirtual 148, 3, (33, 0, [(5, 42)], 0, ""))) pt_122 rfl rfl (List.forall_mem_cons.mpr ⟨⟨_, pt_42, Nat.le_of_ble_eq_true rfl, (Nat.le_of_ble_eq_true rfl), rfl⟩, fun _ h => absurd h List.not_mem_nil⟩),
  fun d l0 l1 l2 x w Q => r_if_ne pt_122 rfl rfl,
  fun d l0 l1 l2 w Q => px_go (q := (.ldc 151, 2, (0, 0, [], (-1000002), ""))) (S' := (22, [l0, l1, l2], [.int (-1000002)], w, 0)) pt_122 rfl rfl,
  fun d l0 l1 l2 x w Q => px_ret (q := (.ireturn, 1, px_x0)) pt_122 rfl rfl,
  fun d l1 l2 a w Q => px_go (q := (.aload_n 0, 1, px_x0)) (S' := (24, [some (.ref a), l1, l2], [.ref a], w, 0)) pt_122 rfl rfl,
  fun d l0 l1 l2 a w Q => px_goO (q := (.getfield 29, 3, (10, 3, [(10, 0)], 0, "AllSworn"))) (S' := fun v => (27, [l0, l1, l2], [v], w, 0)) pt_122 rfl rfl,
  fun d l0 l1 s0 a w Q => px_go (q := (.aload_n 2, 1, px_x0)) (S' := (28, [l0, l1, some (.ref a)], [.ref a, s0], w, 0)) pt_122 rfl rfl,
  fun d l0 l1 s0 w Q => px_go (q := (.aload_n 2, 1, px_x0)) (S' := (28, [l0, l1, some .null], [.null, s0], w, 0)) pt_122 rfl rfl,
  fun d l0 l1 l2 v0 b w Q => r_callV (q := (.invokevirtual 118, 3, (33, 1, [(5, 46)], 0, ""))) pt_122 rfl rfl (List.forall_mem_cons.mpr ⟨⟨_, pt_46, Nat.le_of_ble_eq_true rfl, (Nat.le_of_ble_eq_true rfl), rfl⟩, fun _ h => absurd h List.not_mem_nil⟩),
  fun d l0 l1 l2 w Q => r_iconst pt_122 rfl (by decide),
  fun d l0 l1 l2 x w Q => px_ret (q := (.ireturn, 1, px_x0)) pt_122 rfl rfl⟩
/-- AllSworn.kind(I)I -/
theorem S123 : (∀ (d : Nat) (v0 v1 : Value) (w : px_H) (Q : Option Value → px_H → Prop), wc d 123 [v0, v1] w Q ↔ wp d 123 0 [some v0, some v1, none] [] w 0 Q) ∧
  (∀ (d : Nat) (l1 l2 : Option Value) (a : Nat) (w : px_H) (Q : Option Value → px_H → Prop), wp d 123 0 [some (.ref a), l1, l2] [] w 0 Q ↔ wp d 123 1 [some (.ref a), l1, l2] [.ref a] w 0 Q) ∧
  (∀ (d : Nat) (l0 l1 l2 : Option Value) (a : Nat) (w : px_H) (Q : Option Value → px_H → Prop), wp d 123 1 [l0, l1, l2] [.ref a] w 0 Q ↔ px_op (px_fld w a [(10, 0)] 3) (fun v => wp d 123 4 [l0, l1, l2] [v] w 0 Q)) ∧
  (∀ (d : Nat) (l0 l2 : Option Value) (s0 : Value) (x : Int32) (w : px_H) (Q : Option Value → px_H → Prop), wp d 123 4 [l0, some (.int x), l2] [s0] w 0 Q ↔ wp d 123 5 [l0, some (.int x), l2] [.int x, s0] w 0 Q) ∧
  (∀ (d : Nat) (l0 l1 l2 : Option Value) (v0 : Value) (b : Nat) (w : px_H) (Q : Option Value → px_H → Prop), wp (d + 1) 123 5 [l0, l1, l2] [v0, .ref b] w 0 Q ↔ px_op (px_tgt w b [(5, 47)]) (fun v => wc d v [.ref b, v0] w (fun r w' => wp (d + 1) 123 8 [l0, l1, l2] (r.toList ++ []) w' 0 Q))) ∧
  (∀ (d : Nat) (l0 l1 l2 : Option Value) (a : Nat) (w : px_H) (Q : Option Value → px_H → Prop), wp d 123 8 [l0, l1, l2] [.ref a] w 0 Q ↔ wp d 123 9 [l0, l1, some (.ref a)] [] w 0 Q) ∧
  (∀ (d : Nat) (l0 l1 l2 : Option Value)  (w : px_H) (Q : Option Value → px_H → Prop), wp d 123 8 [l0, l1, l2] [.null] w 0 Q ↔ wp d 123 9 [l0, l1, some .null] [] w 0 Q) ∧
  (∀ (d : Nat) (l0 l1 : Option Value) (a : Nat) (w : px_H) (Q : Option Value → px_H → Prop), wp d 123 9 [l0, l1, some (.ref a)] [] w 0 Q ↔ wp d 123 10 [l0, l1, some (.ref a)] [.ref a] w 0 Q) ∧
  (∀ (d : Nat) (l0 l1 : Option Value)  (w : px_H) (Q : Option Value → px_H → Prop), wp d 123 9 [l0, l1, some .null] [] w 0 Q ↔ wp d 123 10 [l0, l1, some .null] [.null] w 0 Q) ∧
  (∀ (d : Nat) (l0 l1 l2 : Option Value) (a : Nat) (w : px_H) (Q : Option Value → px_H → Prop), wp d 123 10 [l0, l1, l2] [.ref a] w 0 Q ↔ wp d 123 18 [l0, l1, l2] [] w 0 Q) ∧
  (∀ (d : Nat) (l0 l1 l2 : Option Value)  (w : px_H) (Q : Option Value → px_H → Prop), wp d 123 10 [l0, l1, l2] [.null] w 0 Q ↔ wp d 123 13 [l0, l1, l2] [] w 0 Q) ∧
  (∀ (d : Nat) (l0 l1 l2 : Option Value)  (w : px_H) (Q : Option Value → px_H → Prop), wp d 123 13 [l0, l1, l2] [] w 0 Q ↔ wp d 123 15 [l0, l1, l2] [.int (-1000001)] w 0 Q) ∧
  (∀ (d : Nat) (l0 l1 l2 : Option Value) (s0 : Value)  (w : px_H) (Q : Option Value → px_H → Prop), wp d 123 15 [l0, l1, l2] [s0] w 0 Q ↔ wp d 123 22 [l0, l1, l2] [s0] w 0 Q) ∧
  (∀ (d : Nat) (l0 l1 : Option Value) (a : Nat) (w : px_H) (Q : Option Value → px_H → Prop), wp d 123 18 [l0, l1, some (.ref a)] [] w 0 Q ↔ wp d 123 19 [l0, l1, some (.ref a)] [.ref a] w 0 Q) ∧
  (∀ (d : Nat) (l0 l1 : Option Value)  (w : px_H) (Q : Option Value → px_H → Prop), wp d 123 18 [l0, l1, some .null] [] w 0 Q ↔ wp d 123 19 [l0, l1, some .null] [.null] w 0 Q) ∧
  (∀ (d : Nat) (l0 l1 l2 : Option Value)  (b : Nat) (w : px_H) (Q : Option Value → px_H → Prop), wp (d + 1) 123 19 [l0, l1, l2] [.ref b] w 0 Q ↔ px_op (px_tgt w b [(0, 1), (1, 7), (3, 26), (8, 88), (9, 93)]) (fun v => wc d v [.ref b] w (fun r w' => wp (d + 1) 123 22 [l0, l1, l2] (r.toList ++ []) w' 0 Q))) ∧
  (∀ (d : Nat) (l0 l1 l2 : Option Value) (x : Int32) (w : px_H) (Q : Option Value → px_H → Prop), wp d 123 22 [l0, l1, l2] [.int x] w 0 Q ↔ Q (some (.int x)) w) := ⟨fun d v0 v1 w Q => r_entry pt_123 (Nat.le_of_ble_eq_true rfl) rfl,
  fun d l1 l2 a w Q => px_go (q := (.aload_n 0, 1, px_x0)) (S' := (1, [some (.ref a), l1, l2], [.ref a], w, 0)) pt_123 rfl rfl,
  fun d l0 l1 l2 a w Q => px_goO (q := (.getfield 29, 3, (10, 3, [(10, 0)], 0, "AllSworn"))) (S' := fun v => (4, [l0, l1, l2], [v], w, 0)) pt_123 rfl rfl,
  fun d l0 l2 s0 x w Q => px_go (q := (.iload_n 1, 1, px_x0)) (S' := (5, [l0, some (.int x), l2], [.int x, s0], w, 0)) pt_123 rfl rfl,
  fun d l0 l1 l2 v0 b w Q => r_callV (q := (.invokevirtual 125, 3, (33, 1, [(5, 47)], 0, ""))) pt_123 rfl rfl (List.forall_mem_cons.mpr ⟨⟨_, pt_47, Nat.le_of_ble_eq_true rfl, (Nat.le_of_ble_eq_true rfl), rfl⟩, fun _ h => absurd h List.not_mem_nil⟩),
  fun d l0 l1 l2 a w Q => px_go (q := (.astore_n 2, 1, px_x0)) (S' := (9, [l0, l1, some (.ref a)], [], w, 0)) pt_123 rfl rfl,
  fun d l0 l1 l2 w Q => px_go (q := (.astore_n 2, 1, px_x0)) (S' := (9, [l0, l1, some .null], [], w, 0)) pt_123 rfl rfl,
  fun d l0 l1 a w Q => px_go (q := (.aload_n 2, 1, px_x0)) (S' := (10, [l0, l1, some (.ref a)], [.ref a], w, 0)) pt_123 rfl rfl,
  fun d l0 l1 w Q => px_go (q := (.aload_n 2, 1, px_x0)) (S' := (10, [l0, l1, some .null], [.null], w, 0)) pt_123 rfl rfl,
  fun d l0 l1 l2 a w Q => r_ifnonnull pt_123 rfl rfl,
  fun d l0 l1 l2 w Q => px_go (q := (.ifnonnull 8, 3, px_x0)) (S' := (13, [l0, l1, l2], [], w, 0)) pt_123 rfl rfl,
  fun d l0 l1 l2 w Q => px_go (q := (.ldc 62, 2, (0, 0, [], (-1000001), ""))) (S' := (15, [l0, l1, l2], [.int (-1000001)], w, 0)) pt_123 rfl rfl,
  fun d l0 l1 l2 s0 w Q => r_goto pt_123 rfl rfl,
  fun d l0 l1 a w Q => px_go (q := (.aload_n 2, 1, px_x0)) (S' := (19, [l0, l1, some (.ref a)], [.ref a], w, 0)) pt_123 rfl rfl,
  fun d l0 l1 w Q => px_go (q := (.aload_n 2, 1, px_x0)) (S' := (19, [l0, l1, some .null], [.null], w, 0)) pt_123 rfl rfl,
  fun d l0 l1 l2 b w Q => r_callV (q := (.invokevirtual 261, 3, (34, 0, [(0, 1), (1, 7), (3, 26), (8, 88), (9, 93)], 0, "AllSworn$Thing"))) pt_123 rfl rfl (List.forall_mem_cons.mpr ⟨⟨_, pt_1, Nat.le_of_ble_eq_true rfl, (Nat.le_of_ble_eq_true rfl), rfl⟩, List.forall_mem_cons.mpr ⟨⟨_, pt_7, Nat.le_of_ble_eq_true rfl, (Nat.le_of_ble_eq_true rfl), rfl⟩, List.forall_mem_cons.mpr ⟨⟨_, pt_26, Nat.le_of_ble_eq_true rfl, (Nat.le_of_ble_eq_true rfl), rfl⟩, List.forall_mem_cons.mpr ⟨⟨_, pt_88, Nat.le_of_ble_eq_true rfl, (Nat.le_of_ble_eq_true rfl), rfl⟩, List.forall_mem_cons.mpr ⟨⟨_, pt_93, Nat.le_of_ble_eq_true rfl, (Nat.le_of_ble_eq_true rfl), rfl⟩, fun _ h => absurd h List.not_mem_nil⟩⟩⟩⟩⟩),
  fun d l0 l1 l2 x w Q => px_ret (q := (.ireturn, 1, px_x0)) pt_123 rfl rfl⟩
/-- AllSworn.as(II)I -/
theorem S124 : (∀ (d : Nat) (v0 v1 v2 : Value) (w : px_H) (Q : Option Value → px_H → Prop), wc d 124 [v0, v1, v2] w Q ↔ wp d 124 0 [some v0, some v1, some v2, none] [] w 0 Q) ∧
  (∀ (d : Nat) (l1 l2 l3 : Option Value) (a : Nat) (w : px_H) (Q : Option Value → px_H → Prop), wp d 124 0 [some (.ref a), l1, l2, l3] [] w 0 Q ↔ wp d 124 1 [some (.ref a), l1, l2, l3] [.ref a] w 0 Q) ∧
  (∀ (d : Nat) (l0 l1 l2 l3 : Option Value) (a : Nat) (w : px_H) (Q : Option Value → px_H → Prop), wp d 124 1 [l0, l1, l2, l3] [.ref a] w 0 Q ↔ px_op (px_fld w a [(10, 0)] 3) (fun v => wp d 124 4 [l0, l1, l2, l3] [v] w 0 Q)) ∧
  (∀ (d : Nat) (l0 l2 l3 : Option Value) (s0 : Value) (x : Int32) (w : px_H) (Q : Option Value → px_H → Prop), wp d 124 4 [l0, some (.int x), l2, l3] [s0] w 0 Q ↔ wp d 124 5 [l0, some (.int x), l2, l3] [.int x, s0] w 0 Q) ∧
  (∀ (d : Nat) (l0 l1 l2 l3 : Option Value) (v0 : Value) (b : Nat) (w : px_H) (Q : Option Value → px_H → Prop), wp (d + 1) 124 5 [l0, l1, l2, l3] [v0, .ref b] w 0 Q ↔ px_op (px_tgt w b [(5, 47)]) (fun v => wc d v [.ref b, v0] w (fun r w' => wp (d + 1) 124 8 [l0, l1, l2, l3] (r.toList ++ []) w' 0 Q))) ∧
  (∀ (d : Nat) (l0 l1 l2 l3 : Option Value) (a : Nat) (w : px_H) (Q : Option Value → px_H → Prop), wp d 124 8 [l0, l1, l2, l3] [.ref a] w 0 Q ↔ wp d 124 9 [l0, l1, l2, some (.ref a)] [] w 0 Q) ∧
  (∀ (d : Nat) (l0 l1 l2 l3 : Option Value)  (w : px_H) (Q : Option Value → px_H → Prop), wp d 124 8 [l0, l1, l2, l3] [.null] w 0 Q ↔ wp d 124 9 [l0, l1, l2, some .null] [] w 0 Q) ∧
  (∀ (d : Nat) (l0 l1 l2 : Option Value) (a : Nat) (w : px_H) (Q : Option Value → px_H → Prop), wp d 124 9 [l0, l1, l2, some (.ref a)] [] w 0 Q ↔ wp d 124 10 [l0, l1, l2, some (.ref a)] [.ref a] w 0 Q) ∧
  (∀ (d : Nat) (l0 l1 l2 : Option Value)  (w : px_H) (Q : Option Value → px_H → Prop), wp d 124 9 [l0, l1, l2, some .null] [] w 0 Q ↔ wp d 124 10 [l0, l1, l2, some .null] [.null] w 0 Q) ∧
  (∀ (d : Nat) (l0 l1 l2 l3 : Option Value)  (w : px_H) (Q : Option Value → px_H → Prop), wp d 124 10 [l0, l1, l2, l3] [.null] w 0 Q ↔ wp d 124 22 [l0, l1, l2, l3] [] w 0 Q) ∧
  (∀ (d : Nat) (l0 l1 l2 l3 : Option Value) (a : Nat) (w : px_H) (Q : Option Value → px_H → Prop), wp d 124 10 [l0, l1, l2, l3] [.ref a] w 0 Q ↔ wp d 124 13 [l0, l1, l2, l3] [] w 0 Q) ∧
  (∀ (d : Nat) (l0 l1 l3 : Option Value) (x : Int32) (w : px_H) (Q : Option Value → px_H → Prop), wp d 124 13 [l0, l1, some (.int x), l3] [] w 0 Q ↔ wp d 124 14 [l0, l1, some (.int x), l3] [.int x] w 0 Q) ∧
  (∀ (d : Nat) (l0 l1 l2 l3 : Option Value) (x : Int32) (w : px_H) (Q : Option Value → px_H → Prop), wp d 124 14 [l0, l1, l2, l3] [.int x] w 0 Q ↔ if x < 0 then wp d 124 22 [l0, l1, l2, l3] [] w 0 Q else wp d 124 17 [l0, l1, l2, l3] [] w 0 Q) ∧
  (∀ (d : Nat) (l0 l1 l3 : Option Value) (x : Int32) (w : px_H) (Q : Option Value → px_H → Prop), wp d 124 17 [l0, l1, some (.int x), l3] [] w 0 Q ↔ wp d 124 18 [l0, l1, some (.int x), l3] [.int x] w 0 Q) ∧
  (∀ (d : Nat) (l0 l1 l2 l3 : Option Value) (s0 : Value)  (w : px_H) (Q : Option Value → px_H → Prop), wp d 124 18 [l0, l1, l2, l3] [s0] w 0 Q ↔ wp d 124 19 [l0, l1, l2, l3] [.int 5, s0] w 0 Q) ∧
  (∀ (d : Nat) (l0 l1 l2 l3 : Option Value) (x y : Int32) (w : px_H) (Q : Option Value → px_H → Prop), wp d 124 19 [l0, l1, l2, l3] [.int y, .int x] w 0 Q ↔ if x ≤ y then wp d 124 25 [l0, l1, l2, l3] [] w 0 Q else wp d 124 22 [l0, l1, l2, l3] [] w 0 Q) ∧
  (∀ (d : Nat) (l0 l1 l2 l3 : Option Value)  (w : px_H) (Q : Option Value → px_H → Prop), wp d 124 22 [l0, l1, l2, l3] [] w 0 Q ↔ wp d 124 24 [l0, l1, l2, l3] [.int (-1000001)] w 0 Q) ∧
  (∀ (d : Nat) (l0 l1 l2 l3 : Option Value) (x : Int32) (w : px_H) (Q : Option Value → px_H → Prop), wp d 124 24 [l0, l1, l2, l3] [.int x] w 0 Q ↔ Q (some (.int x)) w) ∧
  (∀ (d : Nat) (l0 l1 l2 : Option Value) (a : Nat) (w : px_H) (Q : Option Value → px_H → Prop), wp d 124 25 [l0, l1, l2, some (.ref a)] [] w 0 Q ↔ wp d 124 26 [l0, l1, l2, some (.ref a)] [.ref a] w 0 Q) ∧
  (∀ (d : Nat) (l0 l1 l2 : Option Value)  (w : px_H) (Q : Option Value → px_H → Prop), wp d 124 25 [l0, l1, l2, some .null] [] w 0 Q ↔ wp d 124 26 [l0, l1, l2, some .null] [.null] w 0 Q) ∧
  (∀ (d : Nat) (l0 l1 l3 : Option Value) (s0 : Value) (x : Int32) (w : px_H) (Q : Option Value → px_H → Prop), wp d 124 26 [l0, l1, some (.int x), l3] [s0] w 0 Q ↔ wp d 124 27 [l0, l1, some (.int x), l3] [.int x, s0] w 0 Q) ∧
  (∀ (d : Nat) (l0 l1 l2 l3 : Option Value) (v0 : Value) (b : Nat) (w : px_H) (Q : Option Value → px_H → Prop), wp (d + 1) 124 27 [l0, l1, l2, l3] [v0, .ref b] w 0 Q ↔ px_op (px_tgt w b [(0, 2), (1, 8), (3, 27), (8, 89), (9, 94)]) (fun v => wc d v [.ref b, v0] w (fun r w' => wp (d + 1) 124 30 [l0, l1, l2, l3] (r.toList ++ []) w' 0 Q))) ∧
  (∀ (d : Nat) (l0 l1 l2 l3 : Option Value) (x : Int32) (w : px_H) (Q : Option Value → px_H → Prop), wp d 124 30 [l0, l1, l2, l3] [.int x] w 0 Q ↔ if x = 0 then wp d 124 44 [l0, l1, l2, l3] [] w 0 Q else wp d 124 33 [l0, l1, l2, l3] [] w 0 Q) ∧
  (∀ (d : Nat) (l1 l2 l3 : Option Value) (a : Nat) (w : px_H) (Q : Option Value → px_H → Prop), wp d 124 33 [some (.ref a), l1, l2, l3] [] w 0 Q ↔ wp d 124 34 [some (.ref a), l1, l2, l3] [.ref a] w 0 Q) ∧
  (∀ (d : Nat) (l0 l1 l2 : Option Value) (s0 : Value) (a : Nat) (w : px_H) (Q : Option Value → px_H → Prop), wp d 124 34 [l0, l1, l2, some (.ref a)] [s0] w 0 Q ↔ wp d 124 35 [l0, l1, l2, some (.ref a)] [.ref a, s0] w 0 Q) ∧
  (∀ (d : Nat) (l0 l1 l2 : Option Value) (s0 : Value)  (w : px_H) (Q : Option Value → px_H → Prop), wp d 124 34 [l0, l1, l2, some .null] [s0] w 0 Q ↔ wp d 124 35 [l0, l1, l2, some .null] [.null, s0] w 0 Q) ∧
  (∀ (d : Nat) (l0 l1 l2 l3 : Option Value) (s1 : Value) (a : Nat) (w : px_H) (Q : Option Value → px_H → Prop), wp d 124 35 [l0, l1, l2, l3] [.ref a, s1] w 0 Q ↔ px_op (px_fld w a [(0, 0), (1, 0), (3, 0), (8, 0), (9, 0)] 0) (fun v => wp d 124 38 [l0, l1, l2, l3] [v, s1] w 0 Q)) ∧
  (∀ (d : Nat) (l0 l1 l2 l3 : Option Value) (v0 : Value) (b : Nat) (w : px_H) (Q : Option Value → px_H → Prop), wp (d + 1) 124 38 [l0, l1, l2, l3] [v0, .ref b] w 0 Q ↔ px_op (px_tgt w b [(10, 130)]) (fun v => wc d v [.ref b, v0] w (fun r w' => wp (d + 1) 124 41 [l0, l1, l2, l3] (r.toList ++ []) w' 0 Q))) ∧
  (∀ (d : Nat) (l0 l1 l2 l3 : Option Value) (s0 : Value)  (w : px_H) (Q : Option Value → px_H → Prop), wp d 124 41 [l0, l1, l2, l3] [s0] w 0 Q ↔ wp d 124 49 [l0, l1, l2, l3] [s0] w 0 Q) ∧
  (∀ (d : Nat) (l1 l2 l3 : Option Value) (a : Nat) (w : px_H) (Q : Option Value → px_H → Prop), wp d 124 44 [some (.ref a), l1, l2, l3] [] w 0 Q ↔ wp d 124 45 [some (.ref a), l1, l2, l3] [.ref a] w 0 Q) ∧
  (∀ (d : Nat) (l0 l1 l2 l3 : Option Value) (s0 : Value)  (w : px_H) (Q : Option Value → px_H → Prop), wp d 124 45 [l0, l1, l2, l3] [s0] w 0 Q ↔ wp d 124 46 [l0, l1, l2, l3] [.int 3, s0] w 0 Q) ∧
  (∀ (d : Nat) (l0 l1 l2 l3 : Option Value) (v0 : Value) (b : Nat) (w : px_H) (Q : Option Value → px_H → Prop), wp (d + 1) 124 46 [l0, l1, l2, l3] [v0, .ref b] w 0 Q ↔ px_op (px_tgt w b [(10, 129)]) (fun v => wc d v [.ref b, v0] w (fun r w' => wp (d + 1) 124 49 [l0, l1, l2, l3] (r.toList ++ []) w' 0 Q))) ∧
  (∀ (d : Nat) (l0 l1 l2 l3 : Option Value) (x : Int32) (w : px_H) (Q : Option Value → px_H → Prop), wp d 124 49 [l0, l1, l2, l3] [.int x] w 0 Q ↔ Q (some (.int x)) w) := ⟨fun d v0 v1 v2 w Q => r_entry pt_124 (Nat.le_of_ble_eq_true rfl) rfl,
  fun d l1 l2 l3 a w Q => px_go (q := (.aload_n 0, 1, px_x0)) (S' := (1, [some (.ref a), l1, l2, l3], [.ref a], w, 0)) pt_124 rfl rfl,
  fun d l0 l1 l2 l3 a w Q => px_goO (q := (.getfield 29, 3, (10, 3, [(10, 0)], 0, "AllSworn"))) (S' := fun v => (4, [l0, l1, l2, l3], [v], w, 0)) pt_124 rfl rfl,
  fun d l0 l2 l3 s0 x w Q => px_go (q := (.iload_n 1, 1, px_x0)) (S' := (5, [l0, some (.int x), l2, l3], [.int x, s0], w, 0)) pt_124 rfl rfl,
  fun d l0 l1 l2 l3 v0 b w Q => r_callV (q := (.invokevirtual 125, 3, (33, 1, [(5, 47)], 0, ""))) pt_124 rfl rfl (List.forall_mem_cons.mpr ⟨⟨_, pt_47, Nat.le_of_ble_eq_true rfl, (Nat.le_of_ble_eq_true rfl), rfl⟩, fun _ h => absurd h List.not_mem_nil⟩),
  fun d l0 l1 l2 l3 a w Q => px_go (q := (.astore_n 3, 1, px_x0)) (S' := (9, [l0, l1, l2, some (.ref a)], [], w, 0)) pt_124 rfl rfl,
  fun d l0 l1 l2 l3 w Q => px_go (q := (.astore_n 3, 1, px_x0)) (S' := (9, [l0, l1, l2, some .null], [], w, 0)) pt_124 rfl rfl,
  fun d l0 l1 l2 a w Q => px_go (q := (.aload_n 3, 1, px_x0)) (S' := (10, [l0, l1, l2, some (.ref a)], [.ref a], w, 0)) pt_124 rfl rfl,
  fun d l0 l1 l2 w Q => px_go (q := (.aload_n 3, 1, px_x0)) (S' := (10, [l0, l1, l2, some .null], [.null], w, 0)) pt_124 rfl rfl,
  fun d l0 l1 l2 l3 w Q => r_ifnullN pt_124 rfl rfl,
  fun d l0 l1 l2 l3 a w Q => px_go (q := (.ifnull 12, 3, px_x0)) (S' := (13, [l0, l1, l2, l3], [], w, 0)) pt_124 rfl rfl,
  fun d l0 l1 l3 x w Q => px_go (q := (.iload_n 2, 1, px_x0)) (S' := (14, [l0, l1, some (.int x), l3], [.int x], w, 0)) pt_124 rfl rfl,
  fun d l0 l1 l2 l3 x w Q => r_if_lt pt_124 rfl rfl,
  fun d l0 l1 l3 x w Q => px_go (q := (.iload_n 2, 1, px_x0)) (S' := (18, [l0, l1, some (.int x), l3], [.int x], w, 0)) pt_124 rfl rfl,
  fun d l0 l1 l2 l3 s0 w Q => r_iconst pt_124 rfl (by decide),
  fun d l0 l1 l2 l3 x y w Q => r_icmp_le pt_124 rfl rfl,
  fun d l0 l1 l2 l3 w Q => px_go (q := (.ldc 62, 2, (0, 0, [], (-1000001), ""))) (S' := (24, [l0, l1, l2, l3], [.int (-1000001)], w, 0)) pt_124 rfl rfl,
  fun d l0 l1 l2 l3 x w Q => px_ret (q := (.ireturn, 1, px_x0)) pt_124 rfl rfl,
  fun d l0 l1 l2 a w Q => px_go (q := (.aload_n 3, 1, px_x0)) (S' := (26, [l0, l1, l2, some (.ref a)], [.ref a], w, 0)) pt_124 rfl rfl,
  fun d l0 l1 l2 w Q => px_go (q := (.aload_n 3, 1, px_x0)) (S' := (26, [l0, l1, l2, some .null], [.null], w, 0)) pt_124 rfl rfl,
  fun d l0 l1 l3 s0 x w Q => px_go (q := (.iload_n 2, 1, px_x0)) (S' := (27, [l0, l1, some (.int x), l3], [.int x, s0], w, 0)) pt_124 rfl rfl,
  fun d l0 l1 l2 l3 v0 b w Q => r_callV (q := (.invokevirtual 264, 3, (34, 1, [(0, 2), (1, 8), (3, 27), (8, 89), (9, 94)], 0, "AllSworn$Thing"))) pt_124 rfl rfl (List.forall_mem_cons.mpr ⟨⟨_, pt_2, Nat.le_of_ble_eq_true rfl, (Nat.le_of_ble_eq_true rfl), rfl⟩, List.forall_mem_cons.mpr ⟨⟨_, pt_8, Nat.le_of_ble_eq_true rfl, (Nat.le_of_ble_eq_true rfl), rfl⟩, List.forall_mem_cons.mpr ⟨⟨_, pt_27, Nat.le_of_ble_eq_true rfl, (Nat.le_of_ble_eq_true rfl), rfl⟩, List.forall_mem_cons.mpr ⟨⟨_, pt_89, Nat.le_of_ble_eq_true rfl, (Nat.le_of_ble_eq_true rfl), rfl⟩, List.forall_mem_cons.mpr ⟨⟨_, pt_94, Nat.le_of_ble_eq_true rfl, (Nat.le_of_ble_eq_true rfl), rfl⟩, fun _ h => absurd h List.not_mem_nil⟩⟩⟩⟩⟩),
  fun d l0 l1 l2 l3 x w Q => r_if_eq pt_124 rfl rfl,
  fun d l1 l2 l3 a w Q => px_go (q := (.aload_n 0, 1, px_x0)) (S' := (34, [some (.ref a), l1, l2, l3], [.ref a], w, 0)) pt_124 rfl rfl,
  fun d l0 l1 l2 s0 a w Q => px_go (q := (.aload_n 3, 1, px_x0)) (S' := (35, [l0, l1, l2, some (.ref a)], [.ref a, s0], w, 0)) pt_124 rfl rfl,
  fun d l0 l1 l2 s0 w Q => px_go (q := (.aload_n 3, 1, px_x0)) (S' := (35, [l0, l1, l2, some .null], [.null, s0], w, 0)) pt_124 rfl rfl,
  fun d l0 l1 l2 l3 s1 a w Q => px_goO (q := (.getfield 174, 3, (10, 0, [(0, 0), (1, 0), (3, 0), (8, 0), (9, 0)], 0, "AllSworn$Thing"))) (S' := fun v => (38, [l0, l1, l2, l3], [v, s1], w, 0)) pt_124 rfl rfl,
  fun d l0 l1 l2 l3 v0 b w Q => r_callV (q := (.invokevirtual 71, 3, (33, 1, [(10, 130)], 0, ""))) pt_124 rfl rfl (List.forall_mem_cons.mpr ⟨⟨_, pt_130, Nat.le_of_ble_eq_true rfl, (Nat.le_of_ble_eq_true rfl), rfl⟩, fun _ h => absurd h List.not_mem_nil⟩),
  fun d l0 l1 l2 l3 s0 w Q => r_goto pt_124 rfl rfl,
  fun d l1 l2 l3 a w Q => px_go (q := (.aload_n 0, 1, px_x0)) (S' := (45, [some (.ref a), l1, l2, l3], [.ref a], w, 0)) pt_124 rfl rfl,
  fun d l0 l1 l2 l3 s0 w Q => r_iconst pt_124 rfl (by decide),
  fun d l0 l1 l2 l3 v0 b w Q => r_callV (q := (.invokevirtual 63, 3, (33, 1, [(10, 129)], 0, ""))) pt_124 rfl rfl (List.forall_mem_cons.mpr ⟨⟨_, pt_129, Nat.le_of_ble_eq_true rfl, (Nat.le_of_ble_eq_true rfl), rfl⟩, fun _ h => absurd h List.not_mem_nil⟩),
  fun d l0 l1 l2 l3 x w Q => px_ret (q := (.ireturn, 1, px_x0)) pt_124 rfl rfl⟩
/-- AllSworn.ask(II)I -/
theorem S125 : (∀ (d : Nat) (v0 v1 v2 : Value) (w : px_H) (Q : Option Value → px_H → Prop), wc d 125 [v0, v1, v2] w Q ↔ wp d 125 0 [some v0, some v1, some v2, none] [] w 0 Q) ∧
  (∀ (d : Nat) (l1 l2 l3 : Option Value) (a : Nat) (w : px_H) (Q : Option Value → px_H → Prop), wp d 125 0 [some (.ref a), l1, l2, l3] [] w 0 Q ↔ wp d 125 1 [some (.ref a), l1, l2, l3] [.ref a] w 0 Q) ∧
  (∀ (d : Nat) (l0 l1 l2 l3 : Option Value) (a : Nat) (w : px_H) (Q : Option Value → px_H → Prop), wp d 125 1 [l0, l1, l2, l3] [.ref a] w 0 Q ↔ px_op (px_fld w a [(10, 0)] 3) (fun v => wp d 125 4 [l0, l1, l2, l3] [v] w 0 Q)) ∧
  (∀ (d : Nat) (l0 l2 l3 : Option Value) (s0 : Value) (x : Int32) (w : px_H) (Q : Option Value → px_H → Prop), wp d 125 4 [l0, some (.int x), l2, l3] [s0] w 0 Q ↔ wp d 125 5 [l0, some (.int x), l2, l3] [.int x, s0] w 0 Q) ∧
  (∀ (d : Nat) (l0 l1 l2 l3 : Option Value) (v0 : Value) (b : Nat) (w : px_H) (Q : Option Value → px_H → Prop), wp (d + 1) 125 5 [l0, l1, l2, l3] [v0, .ref b] w 0 Q ↔ px_op (px_tgt w b [(5, 47)]) (fun v => wc d v [.ref b, v0] w (fun r w' => wp (d + 1) 125 8 [l0, l1, l2, l3] (r.toList ++ []) w' 0 Q))) ∧
  (∀ (d : Nat) (l0 l1 l2 l3 : Option Value) (a : Nat) (w : px_H) (Q : Option Value → px_H → Prop), wp d 125 8 [l0, l1, l2, l3] [.ref a] w 0 Q ↔ wp d 125 9 [l0, l1, l2, some (.ref a)] [] w 0 Q) ∧
  (∀ (d : Nat) (l0 l1 l2 l3 : Option Value)  (w : px_H) (Q : Option Value → px_H → Prop), wp d 125 8 [l0, l1, l2, l3] [.null] w 0 Q ↔ wp d 125 9 [l0, l1, l2, some .null] [] w 0 Q) ∧
  (∀ (d : Nat) (l0 l1 l2 : Option Value) (a : Nat) (w : px_H) (Q : Option Value → px_H → Prop), wp d 125 9 [l0, l1, l2, some (.ref a)] [] w 0 Q ↔ wp d 125 10 [l0, l1, l2, some (.ref a)] [.ref a] w 0 Q) ∧
  (∀ (d : Nat) (l0 l1 l2 : Option Value)  (w : px_H) (Q : Option Value → px_H → Prop), wp d 125 9 [l0, l1, l2, some .null] [] w 0 Q ↔ wp d 125 10 [l0, l1, l2, some .null] [.null] w 0 Q) ∧
  (∀ (d : Nat) (l0 l1 l2 l3 : Option Value)  (w : px_H) (Q : Option Value → px_H → Prop), wp d 125 10 [l0, l1, l2, l3] [.null] w 0 Q ↔ wp d 125 20 [l0, l1, l2, l3] [] w 0 Q) ∧
  (∀ (d : Nat) (l0 l1 l2 l3 : Option Value) (a : Nat) (w : px_H) (Q : Option Value → px_H → Prop), wp d 125 10 [l0, l1, l2, l3] [.ref a] w 0 Q ↔ wp d 125 13 [l0, l1, l2, l3] [] w 0 Q) ∧
  (∀ (d : Nat) (l0 l1 l3 : Option Value) (x : Int32) (w : px_H) (Q : Option Value → px_H → Prop), wp d 125 13 [l0, l1, some (.int x), l3] [] w 0 Q ↔ wp d 125 14 [l0, l1, some (.int x), l3] [.int x] w 0 Q) ∧
  (∀ (d : Nat) (l0 l1 l2 l3 : Option Value) (v0 : Value) (w : px_H) (Q : Option Value → px_H → Prop), wp (d + 1) 125 14 [l0, l1, l2, l3] [v0] w 0 Q ↔ wc d 135 [v0] w (fun r w' => wp (d + 1) 125 17 [l0, l1, l2, l3] (r.toList ++ []) w' 0 Q)) ∧
  (∀ (d : Nat) (l0 l1 l2 l3 : Option Value) (x : Int32) (w : px_H) (Q : Option Value → px_H → Prop), wp d 125 17 [l0, l1, l2, l3] [.int x] w 0 Q ↔ if x = 0 then wp d 125 20 [l0, l1, l2, l3] [] w 0 Q else wp d 125 23 [l0, l1, l2, l3] [] w 0 Q) ∧
  (∀ (d : Nat) (l0 l1 l2 l3 : Option Value)  (w : px_H) (Q : Option Value → px_H → Prop), wp d 125 20 [l0, l1, l2, l3] [] w 0 Q ↔ wp d 125 22 [l0, l1, l2, l3] [.int (-1000001)] w 0 Q) ∧
  (∀ (d : Nat) (l0 l1 l2 l3 : Option Value) (x : Int32) (w : px_H) (Q : Option Value → px_H → Prop), wp d 125 22 [l0, l1, l2, l3] [.int x] w 0 Q ↔ Q (some (.int x)) w) ∧
  (∀ (d : Nat) (l1 l2 l3 : Option Value) (a : Nat) (w : px_H) (Q : Option Value → px_H → Prop), wp d 125 23 [some (.ref a), l1, l2, l3] [] w 0 Q ↔ wp d 125 24 [some (.ref a), l1, l2, l3] [.ref a] w 0 Q) ∧
  (∀ (d : Nat) (l0 l1 l2 l3 : Option Value) (a : Nat) (w : px_H) (Q : Option Value → px_H → Prop), wp d 125 24 [l0, l1, l2, l3] [.ref a] w 0 Q ↔ px_op (px_fld w a [(10, 0)] 6) (fun v => wp d 125 27 [l0, l1, l2, l3] [v] w 0 Q)) ∧
  (∀ (d : Nat) (l0 l1 l2 l3 : Option Value)  (b : Nat) (w : px_H) (Q : Option Value → px_H → Prop), wp (d + 1) 125 27 [l0, l1, l2, l3] [.ref b] w 0 Q ↔ px_op (px_tgt w b [(7, 84)]) (fun v => wc d v [.ref b] w (fun r w' => wp (d + 1) 125 30 [l0, l1, l2, l3] (r.toList ++ []) w' 0 Q))) ∧
  (∀ (d : Nat) (l0 l1 l3 : Option Value) (x : Int32) (w : px_H) (Q : Option Value → px_H → Prop), wp d 125 30 [l0, l1, some (.int x), l3] [] w 0 Q ↔ wp d 125 31 [l0, l1, some (.int x), l3] [.int x] w 0 Q) ∧
  (∀ (d : Nat) (l0 l1 l2 l3 : Option Value) (x : Int32) (w : px_H) (Q : Option Value → px_H → Prop), wp d 125 31 [l0, l1, l2, l3] [.int x] w 0 Q ↔ if x = 0 then wp d 125 34 [l0, l1, l2, l3] [] w 0 Q else wp d 125 49 [l0, l1, l2, l3] [] w 0 Q) ∧
  (∀ (d : Nat) (l0 l1 l2 : Option Value) (a : Nat) (w : px_H) (Q : Option Value → px_H → Prop), wp d 125 34 [l0, l1, l2, some (.ref a)] [] w 0 Q ↔ wp d 125 35 [l0, l1, l2, some (.ref a)] [.ref a] w 0 Q) ∧
  (∀ (d : Nat) (l0 l1 l2 : Option Value)  (w : px_H) (Q : Option Value → px_H → Prop), wp d 125 34 [l0, l1, l2, some .null] [] w 0 Q ↔ wp d 125 35 [l0, l1, l2, some .null] [.null] w 0 Q) ∧
  (∀ (d : Nat) (l1 l2 l3 : Option Value) (s0 : Value) (a : Nat) (w : px_H) (Q : Option Value → px_H → Prop), wp d 125 35 [some (.ref a), l1, l2, l3] [s0] w 0 Q ↔ wp d 125 36 [some (.ref a), l1, l2, l3] [.ref a, s0] w 0 Q) ∧
  (∀ (d : Nat) (l0 l1 l2 l3 : Option Value) (s1 : Value) (a : Nat) (w : px_H) (Q : Option Value → px_H → Prop), wp d 125 36 [l0, l1, l2, l3] [.ref a, s1] w 0 Q ↔ px_op (px_fld w a [(10, 0)] 6) (fun v => wp d 125 39 [l0, l1, l2, l3] [v, s1] w 0 Q)) ∧
  (∀ (d : Nat) (l1 l2 l3 : Option Value) (s0 s1 : Value) (a : Nat) (w : px_H) (Q : Option Value → px_H → Prop), wp d 125 39 [some (.ref a), l1, l2, l3] [s0, s1] w 0 Q ↔ wp d 125 40 [some (.ref a), l1, l2, l3] [.ref a, s0, s1] w 0 Q) ∧
  (∀ (d : Nat) (l0 l1 l2 l3 : Option Value) (s1 s2 : Value) (a : Nat) (w : px_H) (Q : Option Value → px_H → Prop), wp d 125 40 [l0, l1, l2, l3] [.ref a, s1, s2] w 0 Q ↔ px_op (px_fld w a [(10, 0)] 3) (fun v => wp d 125 43 [l0, l1, l2, l3] [v, s1, s2] w 0 Q)) ∧
  (∀ (d : Nat) (l0 l1 l2 l3 : Option Value) (v0 v1 : Value) (b : Nat) (w : px_H) (Q : Option Value → px_H → Prop), wp (d + 1) 125 43 [l0, l1, l2, l3] [v1, v0, .ref b] w 0 Q ↔ px_op (px_tgt w b [(0, 4), (1, 10), (3, 28), (8, 91), (9, 28)]) (fun v => wc d v [.ref b, v0, v1] w (fun r w' => wp (d + 1) 125 46 [l0, l1, l2, l3] (r.toList ++ []) w' 0 Q))) ∧
  (∀ (d : Nat) (l0 l1 l2 l3 : Option Value) (s0 : Value)  (w : px_H) (Q : Option Value → px_H → Prop), wp d 125 46 [l0, l1, l2, l3] [s0] w 0 Q ↔ wp d 125 61 [l0, l1, l2, l3] [s0] w 0 Q) ∧
  (∀ (d : Nat) (l0 l1 l2 : Option Value) (a : Nat) (w : px_H) (Q : Option Value → px_H → Prop), wp d 125 49 [l0, l1, l2, some (.ref a)] [] w 0 Q ↔ wp d 125 50 [l0, l1, l2, some (.ref a)] [.ref a] w 0 Q) ∧
  (∀ (d : Nat) (l0 l1 l2 : Option Value)  (w : px_H) (Q : Option Value → px_H → Prop), wp d 125 49 [l0, l1, l2, some .null] [] w 0 Q ↔ wp d 125 50 [l0, l1, l2, some .null] [.null] w 0 Q) ∧
  (∀ (d : Nat) (l1 l2 l3 : Option Value) (s0 : Value) (a : Nat) (w : px_H) (Q : Option Value → px_H → Prop), wp d 125 50 [some (.ref a), l1, l2, l3] [s0] w 0 Q ↔ wp d 125 51 [some (.ref a), l1, l2, l3] [.ref a, s0] w 0 Q) ∧
  (∀ (d : Nat) (l0 l1 l2 l3 : Option Value) (s1 : Value) (a : Nat) (w : px_H) (Q : Option Value → px_H → Prop), wp d 125 51 [l0, l1, l2, l3] [.ref a, s1] w 0 Q ↔ px_op (px_fld w a [(10, 0)] 6) (fun v => wp d 125 54 [l0, l1, l2, l3] [v, s1] w 0 Q)) ∧
  (∀ (d : Nat) (l1 l2 l3 : Option Value) (s0 s1 : Value) (a : Nat) (w : px_H) (Q : Option Value → px_H → Prop), wp d 125 54 [some (.ref a), l1, l2, l3] [s0, s1] w 0 Q ↔ wp d 125 55 [some (.ref a), l1, l2, l3] [.ref a, s0, s1] w 0 Q) ∧
  (∀ (d : Nat) (l0 l1 l2 l3 : Option Value) (s1 s2 : Value) (a : Nat) (w : px_H) (Q : Option Value → px_H → Prop), wp d 125 55 [l0, l1, l2, l3] [.ref a, s1, s2] w 0 Q ↔ px_op (px_fld w a [(10, 0)] 3) (fun v => wp d 125 58 [l0, l1, l2, l3] [v, s1, s2] w 0 Q)) ∧
  (∀ (d : Nat) (l0 l1 l2 l3 : Option Value) (v0 v1 : Value) (b : Nat) (w : px_H) (Q : Option Value → px_H → Prop), wp (d + 1) 125 58 [l0, l1, l2, l3] [v1, v0, .ref b] w 0 Q ↔ px_op (px_tgt w b [(0, 5), (1, 11), (3, 29), (8, 5), (9, 96)]) (fun v => wc d v [.ref b, v0, v1] w (fun r w' => wp (d + 1) 125 61 [l0, l1, l2, l3] (r.toList ++ []) w' 0 Q))) ∧
  (∀ (d : Nat) (l0 l1 l2 l3 : Option Value) (x : Int32) (w : px_H) (Q : Option Value → px_H → Prop), wp d 125 61 [l0, l1, l2, l3] [.int x] w 0 Q ↔ Q (some (.int x)) w) := ⟨fun d v0 v1 v2 w Q => r_entry pt_125 (Nat.le_of_ble_eq_true rfl) rfl,
  fun d l1 l2 l3 a w Q => px_go (q := (.aload_n 0, 1, px_x0)) (S' := (1, [some (.ref a), l1, l2, l3], [.ref a], w, 0)) pt_125 rfl rfl,
  fun d l0 l1 l2 l3 a w Q => px_goO (q := (.getfield 29, 3, (10, 3, [(10, 0)], 0, "AllSworn"))) (S' := fun v => (4, [l0, l1, l2, l3], [v], w, 0)) pt_125 rfl rfl,
  fun d l0 l2 l3 s0 x w Q => px_go (q := (.iload_n 1, 1, px_x0)) (S' := (5, [l0, some (.int x), l2, l3], [.int x, s0], w, 0)) pt_125 rfl rfl,
  fun d l0 l1 l2 l3 v0 b w Q => r_callV (q := (.invokevirtual 125, 3, (33, 1, [(5, 47)], 0, ""))) pt_125 rfl rfl (List.forall_mem_cons.mpr ⟨⟨_, pt_47, Nat.le_of_ble_eq_true rfl, (Nat.le_of_ble_eq_true rfl), rfl⟩, fun _ h => absurd h List.not_mem_nil⟩),
  fun d l0 l1 l2 l3 a w Q => px_go (q := (.astore_n 3, 1, px_x0)) (S' := (9, [l0, l1, l2, some (.ref a)], [], w, 0)) pt_125 rfl rfl,
  fun d l0 l1 l2 l3 w Q => px_go (q := (.astore_n 3, 1, px_x0)) (S' := (9, [l0, l1, l2, some .null], [], w, 0)) pt_125 rfl rfl,
  fun d l0 l1 l2 a w Q => px_go (q := (.aload_n 3, 1, px_x0)) (S' := (10, [l0, l1, l2, some (.ref a)], [.ref a], w, 0)) pt_125 rfl rfl,
  fun d l0 l1 l2 w Q => px_go (q := (.aload_n 3, 1, px_x0)) (S' := (10, [l0, l1, l2, some .null], [.null], w, 0)) pt_125 rfl rfl,
  fun d l0 l1 l2 l3 w Q => r_ifnullN pt_125 rfl rfl,
  fun d l0 l1 l2 l3 a w Q => px_go (q := (.ifnull 10, 3, px_x0)) (S' := (13, [l0, l1, l2, l3], [], w, 0)) pt_125 rfl rfl,
  fun d l0 l1 l3 x w Q => px_go (q := (.iload_n 2, 1, px_x0)) (S' := (14, [l0, l1, some (.int x), l3], [.int x], w, 0)) pt_125 rfl rfl,
  fun d l0 l1 l2 l3 v0 w Q => r_call (q := (.invokestatic 193, 3, (30, 1, [(0, 135)], 0, ""))) pt_125 rfl rfl pt_135 (Nat.le_of_ble_eq_true rfl) (Nat.le_of_ble_eq_true rfl) rfl,
  fun d l0 l1 l2 l3 x w Q => r_if_ne pt_125 rfl rfl,
  fun d l0 l1 l2 l3 w Q => px_go (q := (.ldc 62, 2, (0, 0, [], (-1000001), ""))) (S' := (22, [l0, l1, l2, l3], [.int (-1000001)], w, 0)) pt_125 rfl rfl,
  fun d l0 l1 l2 l3 x w Q => px_ret (q := (.ireturn, 1, px_x0)) pt_125 rfl rfl,
  fun d l1 l2 l3 a w Q => px_go (q := (.aload_n 0, 1, px_x0)) (S' := (24, [some (.ref a), l1, l2, l3], [.ref a], w, 0)) pt_125 rfl rfl,
  fun d l0 l1 l2 l3 a w Q => px_goO (q := (.getfield 46, 3, (10, 6, [(10, 0)], 0, "AllSworn"))) (S' := fun v => (27, [l0, l1, l2, l3], [v], w, 0)) pt_125 rfl rfl,
  fun d l0 l1 l2 l3 b w Q => r_callV (q := (.invokevirtual 267, 3, (33, 0, [(7, 84)], 0, ""))) pt_125 rfl rfl (List.forall_mem_cons.mpr ⟨⟨_, pt_84, Nat.le_of_ble_eq_true rfl, (Nat.le_of_ble_eq_true rfl), rfl⟩, fun _ h => absurd h List.not_mem_nil⟩),
  fun d l0 l1 l3 x w Q => px_go (q := (.iload_n 2, 1, px_x0)) (S' := (31, [l0, l1, some (.int x), l3], [.int x], w, 0)) pt_125 rfl rfl,
  fun d l0 l1 l2 l3 x w Q => r_if_ne pt_125 rfl rfl,
  fun d l0 l1 l2 a w Q => px_go (q := (.aload_n 3, 1, px_x0)) (S' := (35, [l0, l1, l2, some (.ref a)], [.ref a], w, 0)) pt_125 rfl rfl,
  fun d l0 l1 l2 w Q => px_go (q := (.aload_n 3, 1, px_x0)) (S' := (35, [l0, l1, l2, some .null], [.null], w, 0)) pt_125 rfl rfl,
  fun d l1 l2 l3 s0 a w Q => px_go (q := (.aload_n 0, 1, px_x0)) (S' := (36, [some (.ref a), l1, l2, l3], [.ref a, s0], w, 0)) pt_125 rfl rfl,
  fun d l0 l1 l2 l3 s1 a w Q => px_goO (q := (.getfield 46, 3, (10, 6, [(10, 0)], 0, "AllSworn"))) (S' := fun v => (39, [l0, l1, l2, l3], [v, s1], w, 0)) pt_125 rfl rfl,
  fun d l1 l2 l3 s0 s1 a w Q => px_go (q := (.aload_n 0, 1, px_x0)) (S' := (40, [some (.ref a), l1, l2, l3], [.ref a, s0, s1], w, 0)) pt_125 rfl rfl,
  fun d l0 l1 l2 l3 s1 s2 a w Q => px_goO (q := (.getfield 29, 3, (10, 3, [(10, 0)], 0, "AllSworn"))) (S' := fun v => (43, [l0, l1, l2, l3], [v, s1, s2], w, 0)) pt_125 rfl rfl,
  fun d l0 l1 l2 l3 v0 v1 b w Q => r_callV (q := (.invokevirtual 270, 3, (34, 2, [(0, 4), (1, 10), (3, 28), (8, 91), (9, 28)], 0, "AllSworn$Thing"))) pt_125 rfl rfl (List.forall_mem_cons.mpr ⟨⟨_, pt_4, Nat.le_of_ble_eq_true rfl, (Nat.le_of_ble_eq_true rfl), rfl⟩, List.forall_mem_cons.mpr ⟨⟨_, pt_10, Nat.le_of_ble_eq_true rfl, (Nat.le_of_ble_eq_true rfl), rfl⟩, List.forall_mem_cons.mpr ⟨⟨_, pt_28, Nat.le_of_ble_eq_true rfl, (Nat.le_of_ble_eq_true rfl), rfl⟩, List.forall_mem_cons.mpr ⟨⟨_, pt_91, Nat.le_of_ble_eq_true rfl, (Nat.le_of_ble_eq_true rfl), rfl⟩, List.forall_mem_cons.mpr ⟨⟨_, pt_28, Nat.le_of_ble_eq_true rfl, (Nat.le_of_ble_eq_true rfl), rfl⟩, fun _ h => absurd h List.not_mem_nil⟩⟩⟩⟩⟩),
  fun d l0 l1 l2 l3 s0 w Q => r_goto pt_125 rfl rfl,
  fun d l0 l1 l2 a w Q => px_go (q := (.aload_n 3, 1, px_x0)) (S' := (50, [l0, l1, l2, some (.ref a)], [.ref a], w, 0)) pt_125 rfl rfl,
  fun d l0 l1 l2 w Q => px_go (q := (.aload_n 3, 1, px_x0)) (S' := (50, [l0, l1, l2, some .null], [.null], w, 0)) pt_125 rfl rfl,
  fun d l1 l2 l3 s0 a w Q => px_go (q := (.aload_n 0, 1, px_x0)) (S' := (51, [some (.ref a), l1, l2, l3], [.ref a, s0], w, 0)) pt_125 rfl rfl,
  fun d l0 l1 l2 l3 s1 a w Q => px_goO (q := (.getfield 46, 3, (10, 6, [(10, 0)], 0, "AllSworn"))) (S' := fun v => (54, [l0, l1, l2, l3], [v, s1], w, 0)) pt_125 rfl rfl,
  fun d l1 l2 l3 s0 s1 a w Q => px_go (q := (.aload_n 0, 1, px_x0)) (S' := (55, [some (.ref a), l1, l2, l3], [.ref a, s0, s1], w, 0)) pt_125 rfl rfl,
  fun d l0 l1 l2 l3 s1 s2 a w Q => px_goO (q := (.getfield 29, 3, (10, 3, [(10, 0)], 0, "AllSworn"))) (S' := fun v => (58, [l0, l1, l2, l3], [v, s1, s2], w, 0)) pt_125 rfl rfl,
  fun d l0 l1 l2 l3 v0 v1 b w Q => r_callV (q := (.invokevirtual 273, 3, (34, 2, [(0, 5), (1, 11), (3, 29), (8, 5), (9, 96)], 0, "AllSworn$Thing"))) pt_125 rfl rfl (List.forall_mem_cons.mpr ⟨⟨_, pt_5, Nat.le_of_ble_eq_true rfl, (Nat.le_of_ble_eq_true rfl), rfl⟩, List.forall_mem_cons.mpr ⟨⟨_, pt_11, Nat.le_of_ble_eq_true rfl, (Nat.le_of_ble_eq_true rfl), rfl⟩, List.forall_mem_cons.mpr ⟨⟨_, pt_29, Nat.le_of_ble_eq_true rfl, (Nat.le_of_ble_eq_true rfl), rfl⟩, List.forall_mem_cons.mpr ⟨⟨_, pt_5, Nat.le_of_ble_eq_true rfl, (Nat.le_of_ble_eq_true rfl), rfl⟩, List.forall_mem_cons.mpr ⟨⟨_, pt_96, Nat.le_of_ble_eq_true rfl, (Nat.le_of_ble_eq_true rfl), rfl⟩, fun _ h => absurd h List.not_mem_nil⟩⟩⟩⟩⟩),
  fun d l0 l1 l2 l3 x w Q => px_ret (q := (.ireturn, 1, px_x0)) pt_125 rfl rfl⟩
/-- AllSworn.trace(I)I -/
theorem S126 : (∀ (d : Nat) (v0 v1 : Value) (w : px_H) (Q : Option Value → px_H → Prop), wc d 126 [v0, v1] w Q ↔ wp d 126 0 [some v0, some v1] [] w 0 Q) ∧
  (∀ (d : Nat) (l1 : Option Value) (a : Nat) (w : px_H) (Q : Option Value → px_H → Prop), wp d 126 0 [some (.ref a), l1] [] w 0 Q ↔ wp d 126 1 [some (.ref a), l1] [.ref a] w 0 Q) ∧
  (∀ (d : Nat) (l0 l1 : Option Value) (a : Nat) (w : px_H) (Q : Option Value → px_H → Prop), wp d 126 1 [l0, l1] [.ref a] w 0 Q ↔ px_op (px_fld w a [(10, 0)] 6) (fun v => wp d 126 4 [l0, l1] [v] w 0 Q)) ∧
  (∀ (d : Nat) (l0 : Option Value) (s0 : Value) (x : Int32) (w : px_H) (Q : Option Value → px_H → Prop), wp d 126 4 [l0, some (.int x)] [s0] w 0 Q ↔ wp d 126 5 [l0, some (.int x)] [.int x, s0] w 0 Q) ∧
  (∀ (d : Nat) (l0 l1 : Option Value) (v0 : Value) (b : Nat) (w : px_H) (Q : Option Value → px_H → Prop), wp (d + 1) 126 5 [l0, l1] [v0, .ref b] w 0 Q ↔ px_op (px_tgt w b [(7, 86)]) (fun v => wc d v [.ref b, v0] w (fun r w' => wp (d + 1) 126 8 [l0, l1] (r.toList ++ []) w' 0 Q))) ∧
  (∀ (d : Nat) (l0 l1 : Option Value) (x : Int32) (w : px_H) (Q : Option Value → px_H → Prop), wp d 126 8 [l0, l1] [.int x] w 0 Q ↔ Q (some (.int x)) w) := ⟨fun d v0 v1 w Q => r_entry pt_126 (Nat.le_of_ble_eq_true rfl) rfl,
  fun d l1 a w Q => px_go (q := (.aload_n 0, 1, px_x0)) (S' := (1, [some (.ref a), l1], [.ref a], w, 0)) pt_126 rfl rfl,
  fun d l0 l1 a w Q => px_goO (q := (.getfield 46, 3, (10, 6, [(10, 0)], 0, "AllSworn"))) (S' := fun v => (4, [l0, l1], [v], w, 0)) pt_126 rfl rfl,
  fun d l0 s0 x w Q => px_go (q := (.iload_n 1, 1, px_x0)) (S' := (5, [l0, some (.int x)], [.int x, s0], w, 0)) pt_126 rfl rfl,
  fun d l0 l1 v0 b w Q => r_callV (q := (.invokevirtual 276, 3, (33, 1, [(7, 86)], 0, ""))) pt_126 rfl rfl (List.forall_mem_cons.mpr ⟨⟨_, pt_86, Nat.le_of_ble_eq_true rfl, (Nat.le_of_ble_eq_true rfl), rfl⟩, fun _ h => absurd h List.not_mem_nil⟩),
  fun d l0 l1 x w Q => px_ret (q := (.ireturn, 1, px_x0)) pt_126 rfl rfl⟩
/-- AllSworn.count(I)I -/
theorem S127 : (∀ (d : Nat) (v0 v1 : Value) (w : px_H) (Q : Option Value → px_H → Prop), wc d 127 [v0, v1] w Q ↔ wp d 127 0 [some v0, some v1] [] w 0 Q) ∧
  (∀ (d : Nat) (l0 : Option Value) (x : Int32) (w : px_H) (Q : Option Value → px_H → Prop), wp d 127 0 [l0, some (.int x)] [] w 0 Q ↔ wp d 127 1 [l0, some (.int x)] [.int x] w 0 Q) ∧
  (∀ (d : Nat) (l0 l1 : Option Value) (x : Int32) (w : px_H) (Q : Option Value → px_H → Prop), wp d 127 1 [l0, l1] [.int x] w 0 Q ↔ px_op (px_tsw 1 108 0 7 #[47, 52, 60, 68, 76, 84, 92, 100] x) (fun t => wp d 127 t [l0, l1] [] w 0 Q)) ∧
  (∀ (d : Nat) (l1 : Option Value) (a : Nat) (w : px_H) (Q : Option Value → px_H → Prop), wp d 127 48 [some (.ref a), l1] [] w 0 Q ↔ wp d 127 49 [some (.ref a), l1] [.ref a] w 0 Q) ∧
  (∀ (d : Nat) (l0 l1 : Option Value)  (b : Nat) (w : px_H) (Q : Option Value → px_H → Prop), wp (d + 1) 127 49 [l0, l1] [.ref b] w 0 Q ↔ px_op (px_tgt w b [(10, 133)]) (fun v => wc d v [.ref b] w (fun r w' => wp (d + 1) 127 52 [l0, l1] (r.toList ++ []) w' 0 Q))) ∧
  (∀ (d : Nat) (l0 l1 : Option Value) (x : Int32) (w : px_H) (Q : Option Value → px_H → Prop), wp d 127 52 [l0, l1] [.int x] w 0 Q ↔ Q (some (.int x)) w) ∧
  (∀ (d : Nat) (l1 : Option Value) (a : Nat) (w : px_H) (Q : Option Value → px_H → Prop), wp d 127 53 [some (.ref a), l1] [] w 0 Q ↔ wp d 127 54 [some (.ref a), l1] [.ref a] w 0 Q) ∧
  (∀ (d : Nat) (l0 l1 : Option Value) (a : Nat) (w : px_H) (Q : Option Value → px_H → Prop), wp d 127 54 [l0, l1] [.ref a] w 0 Q ↔ px_op (px_fld w a [(10, 0)] 3) (fun v => wp d 127 57 [l0, l1] [v] w 0 Q)) ∧
  (∀ (d : Nat) (l0 l1 : Option Value) (a : Nat) (w : px_H) (Q : Option Value → px_H → Prop), wp d 127 57 [l0, l1] [.ref a] w 0 Q ↔ px_op (px_fld w a [(5, 0)] 5) (fun v => wp d 127 60 [l0, l1] [v] w 0 Q)) ∧
  (∀ (d : Nat) (l0 l1 : Option Value) (x : Int32) (w : px_H) (Q : Option Value → px_H → Prop), wp d 127 60 [l0, l1] [.int x] w 0 Q ↔ Q (some (.int x)) w) ∧
  (∀ (d : Nat) (l1 : Option Value) (a : Nat) (w : px_H) (Q : Option Value → px_H → Prop), wp d 127 61 [some (.ref a), l1] [] w 0 Q ↔ wp d 127 62 [some (.ref a), l1] [.ref a] w 0 Q) ∧
  (∀ (d : Nat) (l0 l1 : Option Value) (a : Nat) (w : px_H) (Q : Option Value → px_H → Prop), wp d 127 62 [l0, l1] [.ref a] w 0 Q ↔ px_op (px_fld w a [(10, 0)] 3) (fun v => wp d 127 65 [l0, l1] [v] w 0 Q)) ∧
  (∀ (d : Nat) (l0 l1 : Option Value) (a : Nat) (w : px_H) (Q : Option Value → px_H → Prop), wp d 127 65 [l0, l1] [.ref a] w 0 Q ↔ px_op (px_fld w a [(5, 0)] 6) (fun v => wp d 127 68 [l0, l1] [v] w 0 Q)) ∧
  (∀ (d : Nat) (l0 l1 : Option Value) (x : Int32) (w : px_H) (Q : Option Value → px_H → Prop), wp d 127 68 [l0, l1] [.int x] w 0 Q ↔ Q (some (.int x)) w) ∧
  (∀ (d : Nat) (l1 : Option Value) (a : Nat) (w : px_H) (Q : Option Value → px_H → Prop), wp d 127 69 [some (.ref a), l1] [] w 0 Q ↔ wp d 127 70 [some (.ref a), l1] [.ref a] w 0 Q) ∧
  (∀ (d : Nat) (l0 l1 : Option Value) (a : Nat) (w : px_H) (Q : Option Value → px_H → Prop), wp d 127 70 [l0, l1] [.ref a] w 0 Q ↔ px_op (px_fld w a [(10, 0)] 3) (fun v => wp d 127 73 [l0, l1] [v] w 0 Q)) ∧
  (∀ (d : Nat) (l0 l1 : Option Value) (a : Nat) (w : px_H) (Q : Option Value → px_H → Prop), wp d 127 73 [l0, l1] [.ref a] w 0 Q ↔ px_op (px_fld w a [(5, 0)] 8) (fun v => wp d 127 76 [l0, l1] [v] w 0 Q)) ∧
  (∀ (d : Nat) (l0 l1 : Option Value) (x : Int32) (w : px_H) (Q : Option Value → px_H → Prop), wp d 127 76 [l0, l1] [.int x] w 0 Q ↔ Q (some (.int x)) w) ∧
  (∀ (d : Nat) (l1 : Option Value) (a : Nat) (w : px_H) (Q : Option Value → px_H → Prop), wp d 127 77 [some (.ref a), l1] [] w 0 Q ↔ wp d 127 78 [some (.ref a), l1] [.ref a] w 0 Q) ∧
  (∀ (d : Nat) (l0 l1 : Option Value) (a : Nat) (w : px_H) (Q : Option Value → px_H → Prop), wp d 127 78 [l0, l1] [.ref a] w 0 Q ↔ px_op (px_fld w a [(10, 0)] 3) (fun v => wp d 127 81 [l0, l1] [v] w 0 Q)) ∧
  (∀ (d : Nat) (l0 l1 : Option Value) (a : Nat) (w : px_H) (Q : Option Value → px_H → Prop), wp d 127 81 [l0, l1] [.ref a] w 0 Q ↔ px_op (px_fld w a [(5, 0)] 9) (fun v => wp d 127 84 [l0, l1] [v] w 0 Q)) ∧
  (∀ (d : Nat) (l0 l1 : Option Value) (x : Int32) (w : px_H) (Q : Option Value → px_H → Prop), wp d 127 84 [l0, l1] [.int x] w 0 Q ↔ Q (some (.int x)) w) ∧
  (∀ (d : Nat) (l1 : Option Value) (a : Nat) (w : px_H) (Q : Option Value → px_H → Prop), wp d 127 85 [some (.ref a), l1] [] w 0 Q ↔ wp d 127 86 [some (.ref a), l1] [.ref a] w 0 Q) ∧
  (∀ (d : Nat) (l0 l1 : Option Value) (a : Nat) (w : px_H) (Q : Option Value → px_H → Prop), wp d 127 86 [l0, l1] [.ref a] w 0 Q ↔ px_op (px_fld w a [(10, 0)] 3) (fun v => wp d 127 89 [l0, l1] [v] w 0 Q)) ∧
  (∀ (d : Nat) (l0 l1 : Option Value) (a : Nat) (w : px_H) (Q : Option Value → px_H → Prop), wp d 127 89 [l0, l1] [.ref a] w 0 Q ↔ px_op (px_fld w a [(5, 0)] 4) (fun v => wp d 127 92 [l0, l1] [v] w 0 Q)) ∧
  (∀ (d : Nat) (l0 l1 : Option Value) (x : Int32) (w : px_H) (Q : Option Value → px_H → Prop), wp d 127 92 [l0, l1] [.int x] w 0 Q ↔ Q (some (.int x)) w) ∧
  (∀ (d : Nat) (l1 : Option Value) (a : Nat) (w : px_H) (Q : Option Value → px_H → Prop), wp d 127 93 [some (.ref a), l1] [] w 0 Q ↔ wp d 127 94 [some (.ref a), l1] [.ref a] w 0 Q) ∧
  (∀ (d : Nat) (l0 l1 : Option Value) (a : Nat) (w : px_H) (Q : Option Value → px_H → Prop), wp d 127 94 [l0, l1] [.ref a] w 0 Q ↔ px_op (px_fld w a [(10, 0)] 3) (fun v => wp d 127 97 [l0, l1] [v] w 0 Q)) ∧
  (∀ (d : Nat) (l0 l1 : Option Value) (a : Nat) (w : px_H) (Q : Option Value → px_H → Prop), wp d 127 97 [l0, l1] [.ref a] w 0 Q ↔ px_op (px_fld w a [(5, 0)] 7) (fun v => wp d 127 100 [l0, l1] [v] w 0 Q)) ∧
  (∀ (d : Nat) (l0 l1 : Option Value) (x : Int32) (w : px_H) (Q : Option Value → px_H → Prop), wp d 127 100 [l0, l1] [.int x] w 0 Q ↔ Q (some (.int x)) w) ∧
  (∀ (d : Nat) (l1 : Option Value) (a : Nat) (w : px_H) (Q : Option Value → px_H → Prop), wp d 127 101 [some (.ref a), l1] [] w 0 Q ↔ wp d 127 102 [some (.ref a), l1] [.ref a] w 0 Q) ∧
  (∀ (d : Nat) (l0 l1 : Option Value) (a : Nat) (w : px_H) (Q : Option Value → px_H → Prop), wp d 127 102 [l0, l1] [.ref a] w 0 Q ↔ px_op (px_fld w a [(10, 0)] 1) (fun v => wp d 127 105 [l0, l1] [v] w 0 Q)) ∧
  (∀ (d : Nat) (l0 l1 : Option Value) (a : Nat) (w : px_H) (Q : Option Value → px_H → Prop), wp d 127 105 [l0, l1] [.ref a] w 0 Q ↔ px_op (px_fld w a [(4, 0)] 1) (fun v => wp d 127 108 [l0, l1] [v] w 0 Q)) ∧
  (∀ (d : Nat) (l0 l1 : Option Value) (x : Int32) (w : px_H) (Q : Option Value → px_H → Prop), wp d 127 108 [l0, l1] [.int x] w 0 Q ↔ Q (some (.int x)) w) ∧
  (∀ (d : Nat) (l0 l1 : Option Value)  (w : px_H) (Q : Option Value → px_H → Prop), wp d 127 109 [l0, l1] [] w 0 Q ↔ wp d 127 111 [l0, l1] [.int (-1000001)] w 0 Q) ∧
  (∀ (d : Nat) (l0 l1 : Option Value) (x : Int32) (w : px_H) (Q : Option Value → px_H → Prop), wp d 127 111 [l0, l1] [.int x] w 0 Q ↔ Q (some (.int x)) w) := ⟨fun d v0 v1 w Q => r_entry pt_127 (Nat.le_of_ble_eq_true rfl) rfl,
  fun d l0 x w Q => px_go (q := (.iload_n 1, 1, px_x0)) (S' := (1, [l0, some (.int x)], [.int x], w, 0)) pt_127 rfl rfl,
  fun d l0 l1 x w Q => r_tsw pt_127 rfl,
  fun d l1 a w Q => px_go (q := (.aload_n 0, 1, px_x0)) (S' := (49, [some (.ref a), l1], [.ref a], w, 0)) pt_127 rfl rfl,
  fun d l0 l1 b w Q => r_callV (q := (.invokevirtual 279, 3, (33, 0, [(10, 133)], 0, ""))) pt_127 rfl rfl (List.forall_mem_cons.mpr ⟨⟨_, pt_133, Nat.le_of_ble_eq_true rfl, (Nat.le_of_ble_eq_true rfl), rfl⟩, fun _ h => absurd h List.not_mem_nil⟩),
  fun d l0 l1 x w Q => px_ret (q := (.ireturn, 1, px_x0)) pt_127 rfl rfl,
  fun d l1 a w Q => px_go (q := (.aload_n 0, 1, px_x0)) (S' := (54, [some (.ref a), l1], [.ref a], w, 0)) pt_127 rfl rfl,
  fun d l0 l1 a w Q => px_goO (q := (.getfield 29, 3, (10, 3, [(10, 0)], 0, "AllSworn"))) (S' := fun v => (57, [l0, l1], [v], w, 0)) pt_127 rfl rfl,
  fun d l0 l1 a w Q => px_goO (q := (.getfield 122, 3, (11, 5, [(5, 0)], 0, "AllSworn$Realm"))) (S' := fun v => (60, [l0, l1], [v], w, 0)) pt_127 rfl rfl,
  fun d l0 l1 x w Q => px_ret (q := (.ireturn, 1, px_x0)) pt_127 rfl rfl,
  fun d l1 a w Q => px_go (q := (.aload_n 0, 1, px_x0)) (S' := (62, [some (.ref a), l1], [.ref a], w, 0)) pt_127 rfl rfl,
  fun d l0 l1 a w Q => px_goO (q := (.getfield 29, 3, (10, 3, [(10, 0)], 0, "AllSworn"))) (S' := fun v => (65, [l0, l1], [v], w, 0)) pt_127 rfl rfl,
  fun d l0 l1 a w Q => px_goO (q := (.getfield 282, 3, (11, 6, [(5, 0)], 0, "AllSworn$Realm"))) (S' := fun v => (68, [l0, l1], [v], w, 0)) pt_127 rfl rfl,
  fun d l0 l1 x w Q => px_ret (q := (.ireturn, 1, px_x0)) pt_127 rfl rfl,
  fun d l1 a w Q => px_go (q := (.aload_n 0, 1, px_x0)) (S' := (70, [some (.ref a), l1], [.ref a], w, 0)) pt_127 rfl rfl,
  fun d l0 l1 a w Q => px_goO (q := (.getfield 29, 3, (10, 3, [(10, 0)], 0, "AllSworn"))) (S' := fun v => (73, [l0, l1], [v], w, 0)) pt_127 rfl rfl,
  fun d l0 l1 a w Q => px_goO (q := (.getfield 129, 3, (11, 8, [(5, 0)], 0, "AllSworn$Realm"))) (S' := fun v => (76, [l0, l1], [v], w, 0)) pt_127 rfl rfl,
  fun d l0 l1 x w Q => px_ret (q := (.ireturn, 1, px_x0)) pt_127 rfl rfl,
  fun d l1 a w Q => px_go (q := (.aload_n 0, 1, px_x0)) (S' := (78, [some (.ref a), l1], [.ref a], w, 0)) pt_127 rfl rfl,
  fun d l0 l1 a w Q => px_goO (q := (.getfield 29, 3, (10, 3, [(10, 0)], 0, "AllSworn"))) (S' := fun v => (81, [l0, l1], [v], w, 0)) pt_127 rfl rfl,
  fun d l0 l1 a w Q => px_goO (q := (.getfield 285, 3, (11, 9, [(5, 0)], 0, "AllSworn$Realm"))) (S' := fun v => (84, [l0, l1], [v], w, 0)) pt_127 rfl rfl,
  fun d l0 l1 x w Q => px_ret (q := (.ireturn, 1, px_x0)) pt_127 rfl rfl,
  fun d l1 a w Q => px_go (q := (.aload_n 0, 1, px_x0)) (S' := (86, [some (.ref a), l1], [.ref a], w, 0)) pt_127 rfl rfl,
  fun d l0 l1 a w Q => px_goO (q := (.getfield 29, 3, (10, 3, [(10, 0)], 0, "AllSworn"))) (S' := fun v => (89, [l0, l1], [v], w, 0)) pt_127 rfl rfl,
  fun d l0 l1 a w Q => px_goO (q := (.getfield 288, 3, (11, 4, [(5, 0)], 0, "AllSworn$Realm"))) (S' := fun v => (92, [l0, l1], [v], w, 0)) pt_127 rfl rfl,
  fun d l0 l1 x w Q => px_ret (q := (.ireturn, 1, px_x0)) pt_127 rfl rfl,
  fun d l1 a w Q => px_go (q := (.aload_n 0, 1, px_x0)) (S' := (94, [some (.ref a), l1], [.ref a], w, 0)) pt_127 rfl rfl,
  fun d l0 l1 a w Q => px_goO (q := (.getfield 29, 3, (10, 3, [(10, 0)], 0, "AllSworn"))) (S' := fun v => (97, [l0, l1], [v], w, 0)) pt_127 rfl rfl,
  fun d l0 l1 a w Q => px_goO (q := (.getfield 159, 3, (11, 7, [(5, 0)], 0, "AllSworn$Realm"))) (S' := fun v => (100, [l0, l1], [v], w, 0)) pt_127 rfl rfl,
  fun d l0 l1 x w Q => px_ret (q := (.ireturn, 1, px_x0)) pt_127 rfl rfl,
  fun d l1 a w Q => px_go (q := (.aload_n 0, 1, px_x0)) (S' := (102, [some (.ref a), l1], [.ref a], w, 0)) pt_127 rfl rfl,
  fun d l0 l1 a w Q => px_goO (q := (.getfield 18, 3, (10, 1, [(10, 0)], 0, "AllSworn"))) (S' := fun v => (105, [l0, l1], [v], w, 0)) pt_127 rfl rfl,
  fun d l0 l1 a w Q => px_goO (q := (.getfield 103, 3, (11, 1, [(4, 0)], 0, "AllSworn$Reader"))) (S' := fun v => (108, [l0, l1], [v], w, 0)) pt_127 rfl rfl,
  fun d l0 l1 x w Q => px_ret (q := (.ireturn, 1, px_x0)) pt_127 rfl rfl,
  fun d l0 l1 w Q => px_go (q := (.ldc 62, 2, (0, 0, [], (-1000001), ""))) (S' := (111, [l0, l1], [.int (-1000001)], w, 0)) pt_127 rfl rfl,
  fun d l0 l1 x w Q => px_ret (q := (.ireturn, 1, px_x0)) pt_127 rfl rfl⟩
/-- AllSworn.status()I -/
theorem S128 : (∀ (d : Nat) (v0 : Value) (w : px_H) (Q : Option Value → px_H → Prop), wc d 128 [v0] w Q ↔ wp d 128 0 [some v0] [] w 0 Q) ∧
  (∀ (d : Nat) (a : Nat) (w : px_H) (Q : Option Value → px_H → Prop), wp d 128 0 [some (.ref a)] [] w 0 Q ↔ wp d 128 1 [some (.ref a)] [.ref a] w 0 Q) ∧
  (∀ (d : Nat) (l0 : Option Value) (a : Nat) (w : px_H) (Q : Option Value → px_H → Prop), wp d 128 1 [l0] [.ref a] w 0 Q ↔ px_op (px_fld w a [(10, 0)] 8) (fun v => wp d 128 4 [l0] [v] w 0 Q)) ∧
  (∀ (d : Nat) (l0 : Option Value) (x : Int32) (w : px_H) (Q : Option Value → px_H → Prop), wp d 128 4 [l0] [.int x] w 0 Q ↔ Q (some (.int x)) w) := ⟨fun d v0 w Q => r_entry pt_128 (Nat.le_of_ble_eq_true rfl) rfl,
  fun d a w Q => px_go (q := (.aload_n 0, 1, px_x0)) (S' := (1, [some (.ref a)], [.ref a], w, 0)) pt_128 rfl rfl,
  fun d l0 a w Q => px_goO (q := (.getfield 54, 3, (10, 8, [(10, 0)], 0, "AllSworn"))) (S' := fun v => (4, [l0], [v], w, 0)) pt_128 rfl rfl,
  fun d l0 x w Q => px_ret (q := (.ireturn, 1, px_x0)) pt_128 rfl rfl⟩
/-- AllSworn.found(I)I -/
theorem S129 : (∀ (d : Nat) (v0 v1 : Value) (w : px_H) (Q : Option Value → px_H → Prop), wc d 129 [v0, v1] w Q ↔ wp d 129 0 [some v0, some v1] [] w 0 Q) ∧
  (∀ (d : Nat) (l1 : Option Value) (a : Nat) (w : px_H) (Q : Option Value → px_H → Prop), wp d 129 0 [some (.ref a), l1] [] w 0 Q ↔ wp d 129 1 [some (.ref a), l1] [.ref a] w 0 Q) ∧
  (∀ (d : Nat) (l0 : Option Value) (s0 : Value) (x : Int32) (w : px_H) (Q : Option Value → px_H → Prop), wp d 129 1 [l0, some (.int x)] [s0] w 0 Q ↔ wp d 129 2 [l0, some (.int x)] [.int x, s0] w 0 Q) ∧
  (∀ (d : Nat) (l0 l1 : Option Value) (x : Int32) (a : Nat) (w : px_H) (Q : Option Value → px_H → Prop), wp d 129 2 [l0, l1] [.int x, .ref a] w 0 Q ↔ px_op (px_pfd w a [(10, 0)] 8 (.int x)) (fun w' => wp d 129 5 [l0, l1] [] w' 0 Q)) ∧
  (∀ (d : Nat) (l0 l1 : Option Value)  (w : px_H) (Q : Option Value → px_H → Prop), wp d 129 5 [l0, l1] [] w 0 Q ↔ wp d 129 8 [l0, l1] [.int (-1000010)] w 0 Q) ∧
  (∀ (d : Nat) (l0 : Option Value) (s0 : Value) (x : Int32) (w : px_H) (Q : Option Value → px_H → Prop), wp d 129 8 [l0, some (.int x)] [s0] w 0 Q ↔ wp d 129 9 [l0, some (.int x)] [.int x, s0] w 0 Q) ∧
  (∀ (d : Nat) (l0 l1 : Option Value) (x y : Int32) (w : px_H) (Q : Option Value → px_H → Prop), wp d 129 9 [l0, l1] [.int y, .int x] w 0 Q ↔ wp d 129 10 [l0, l1] [.int (x - y)] w 0 Q) ∧
  (∀ (d : Nat) (l0 l1 : Option Value) (x : Int32) (w : px_H) (Q : Option Value → px_H → Prop), wp d 129 10 [l0, l1] [.int x] w 0 Q ↔ Q (some (.int x)) w) := ⟨fun d v0 v1 w Q => r_entry pt_129 (Nat.le_of_ble_eq_true rfl) rfl,
  fun d l1 a w Q => px_go (q := (.aload_n 0, 1, px_x0)) (S' := (1, [some (.ref a), l1], [.ref a], w, 0)) pt_129 rfl rfl,
  fun d l0 s0 x w Q => px_go (q := (.iload_n 1, 1, px_x0)) (S' := (2, [l0, some (.int x)], [.int x, s0], w, 0)) pt_129 rfl rfl,
  fun d l0 l1 x a w Q => r_put pt_129 rfl (by simp only [List.all_cons, List.all_nil, ft_10_8, px_fit, px_isr, Bool.and_self]),
  fun d l0 l1 w Q => px_go (q := (.ldc_w 291, 3, (0, 0, [], (-1000010), ""))) (S' := (8, [l0, l1], [.int (-1000010)], w, 0)) pt_129 rfl rfl,
  fun d l0 s0 x w Q => px_go (q := (.iload_n 1, 1, px_x0)) (S' := (9, [l0, some (.int x)], [.int x, s0], w, 0)) pt_129 rfl rfl,
  fun d l0 l1 x y w Q => px_go (q := (.isub, 1, px_x0)) (S' := (10, [l0, l1], [.int (x - y)], w, 0)) pt_129 rfl rfl,
  fun d l0 l1 x w Q => px_ret (q := (.ireturn, 1, px_x0)) pt_129 rfl rfl⟩
/-- AllSworn.clean(I)I -/
theorem S130 : (∀ (d : Nat) (v0 v1 : Value) (w : px_H) (Q : Option Value → px_H → Prop), wc d 130 [v0, v1] w Q ↔ wp d 130 0 [some v0, some v1] [] w 0 Q) ∧
  (∀ (d : Nat) (l1 : Option Value) (a : Nat) (w : px_H) (Q : Option Value → px_H → Prop), wp d 130 0 [some (.ref a), l1] [] w 0 Q ↔ wp d 130 1 [some (.ref a), l1] [.ref a] w 0 Q) ∧
  (∀ (d : Nat) (l0 l1 : Option Value) (s0 : Value)  (w : px_H) (Q : Option Value → px_H → Prop), wp d 130 1 [l0, l1] [s0] w 0 Q ↔ wp d 130 2 [l0, l1] [.int 0, s0] w 0 Q) ∧
  (∀ (d : Nat) (l0 l1 : Option Value) (x : Int32) (a : Nat) (w : px_H) (Q : Option Value → px_H → Prop), wp d 130 2 [l0, l1] [.int x, .ref a] w 0 Q ↔ px_op (px_pfd w a [(10, 0)] 8 (.int x)) (fun w' => wp d 130 5 [l0, l1] [] w' 0 Q)) ∧
  (∀ (d : Nat) (l0 : Option Value) (x : Int32) (w : px_H) (Q : Option Value → px_H → Prop), wp d 130 5 [l0, some (.int x)] [] w 0 Q ↔ wp d 130 6 [l0, some (.int x)] [.int x] w 0 Q) ∧
  (∀ (d : Nat) (l0 l1 : Option Value) (x : Int32) (w : px_H) (Q : Option Value → px_H → Prop), wp d 130 6 [l0, l1] [.int x] w 0 Q ↔ Q (some (.int x)) w) := ⟨fun d v0 v1 w Q => r_entry pt_130 (Nat.le_of_ble_eq_true rfl) rfl,
  fun d l1 a w Q => px_go (q := (.aload_n 0, 1, px_x0)) (S' := (1, [some (.ref a), l1], [.ref a], w, 0)) pt_130 rfl rfl,
  fun d l0 l1 s0 w Q => r_iconst pt_130 rfl (by decide),
  fun d l0 l1 x a w Q => r_put pt_130 rfl (by simp only [List.all_cons, List.all_nil, ft_10_8, px_fit, px_isr, Bool.and_self]),
  fun d l0 x w Q => px_go (q := (.iload_n 1, 1, px_x0)) (S' := (6, [l0, some (.int x)], [.int x], w, 0)) pt_130 rfl rfl,
  fun d l0 l1 x w Q => px_ret (q := (.ireturn, 1, px_x0)) pt_130 rfl rfl⟩
/-- AllSworn.rowAt(I)LAllSworn$Row; -/
theorem S131 : (∀ (d : Nat) (v0 v1 : Value) (w : px_H) (Q : Option Value → px_H → Prop), wc d 131 [v0, v1] w Q ↔ wp d 131 0 [some v0, some v1] [] w 0 Q) ∧
  (∀ (d : Nat) (l0 : Option Value) (x : Int32) (w : px_H) (Q : Option Value → px_H → Prop), wp d 131 0 [l0, some (.int x)] [] w 0 Q ↔ wp d 131 1 [l0, some (.int x)] [.int x] w 0 Q) ∧
  (∀ (d : Nat) (l0 l1 : Option Value) (x : Int32) (w : px_H) (Q : Option Value → px_H → Prop), wp d 131 1 [l0, l1] [.int x] w 0 Q ↔ if x < 0 then wp d 131 19 [l0, l1] [] w 0 Q else wp d 131 4 [l0, l1] [] w 0 Q) ∧
  (∀ (d : Nat) (l0 : Option Value) (x : Int32) (w : px_H) (Q : Option Value → px_H → Prop), wp d 131 4 [l0, some (.int x)] [] w 0 Q ↔ wp d 131 5 [l0, some (.int x)] [.int x] w 0 Q) ∧
  (∀ (d : Nat) (l0 l1 : Option Value) (s0 : Value)  (w : px_H) (Q : Option Value → px_H → Prop), wp d 131 5 [l0, l1] [s0] w 0 Q ↔ wp d 131 7 [l0, l1] [.int 8, s0] w 0 Q) ∧
  (∀ (d : Nat) (l0 l1 : Option Value) (x y : Int32) (w : px_H) (Q : Option Value → px_H → Prop), wp d 131 7 [l0, l1] [.int y, .int x] w 0 Q ↔ if y ≤ x then wp d 131 19 [l0, l1] [] w 0 Q else wp d 131 10 [l0, l1] [] w 0 Q) ∧
  (∀ (d : Nat) (l1 : Option Value) (a : Nat) (w : px_H) (Q : Option Value → px_H → Prop), wp d 131 10 [some (.ref a), l1] [] w 0 Q ↔ wp d 131 11 [some (.ref a), l1] [.ref a] w 0 Q) ∧
  (∀ (d : Nat) (l0 l1 : Option Value) (a : Nat) (w : px_H) (Q : Option Value → px_H → Prop), wp d 131 11 [l0, l1] [.ref a] w 0 Q ↔ px_op (px_fld w a [(10, 0)] 0) (fun v => wp d 131 14 [l0, l1] [v] w 0 Q)) ∧
  (∀ (d : Nat) (l0 : Option Value) (s0 : Value) (x : Int32) (w : px_H) (Q : Option Value → px_H → Prop), wp d 131 14 [l0, some (.int x)] [s0] w 0 Q ↔ wp d 131 15 [l0, some (.int x)] [.int x, s0] w 0 Q) ∧
  (∀ (d : Nat) (l0 l1 : Option Value) (i : Int32) (a : Nat) (w : px_H) (Q : Option Value → px_H → Prop), wp d 131 15 [l0, l1] [.int i, .ref a] w 0 Q ↔ px_op (px_rld w a i) (fun v => wp d 131 16 [l0, l1] [v] w 0 Q)) ∧
  (∀ (d : Nat) (l0 l1 : Option Value) (s0 : Value)  (w : px_H) (Q : Option Value → px_H → Prop), wp d 131 16 [l0, l1] [s0] w 0 Q ↔ wp d 131 20 [l0, l1] [s0] w 0 Q) ∧
  (∀ (d : Nat) (l0 l1 : Option Value)  (w : px_H) (Q : Option Value → px_H → Prop), wp d 131 19 [l0, l1] [] w 0 Q ↔ wp d 131 20 [l0, l1] [.null] w 0 Q) ∧
  (∀ (d : Nat) (l0 l1 : Option Value) (a : Nat) (w : px_H) (Q : Option Value → px_H → Prop), wp d 131 20 [l0, l1] [.ref a] w 0 Q ↔ Q (some (.ref a)) w) ∧
  (∀ (d : Nat) (l0 l1 : Option Value)  (w : px_H) (Q : Option Value → px_H → Prop), wp d 131 20 [l0, l1] [.null] w 0 Q ↔ Q (some .null) w) := ⟨fun d v0 v1 w Q => r_entry pt_131 (Nat.le_of_ble_eq_true rfl) rfl,
  fun d l0 x w Q => px_go (q := (.iload_n 1, 1, px_x0)) (S' := (1, [l0, some (.int x)], [.int x], w, 0)) pt_131 rfl rfl,
  fun d l0 l1 x w Q => r_if_lt pt_131 rfl rfl,
  fun d l0 x w Q => px_go (q := (.iload_n 1, 1, px_x0)) (S' := (5, [l0, some (.int x)], [.int x], w, 0)) pt_131 rfl rfl,
  fun d l0 l1 s0 w Q => r_bipush pt_131 rfl (by decide),
  fun d l0 l1 x y w Q => r_icmp_ge pt_131 rfl rfl,
  fun d l1 a w Q => px_go (q := (.aload_n 0, 1, px_x0)) (S' := (11, [some (.ref a), l1], [.ref a], w, 0)) pt_131 rfl rfl,
  fun d l0 l1 a w Q => px_goO (q := (.getfield 11, 3, (10, 0, [(10, 0)], 0, "AllSworn"))) (S' := fun v => (14, [l0, l1], [v], w, 0)) pt_131 rfl rfl,
  fun d l0 s0 x w Q => px_go (q := (.iload_n 1, 1, px_x0)) (S' := (15, [l0, some (.int x)], [.int x, s0], w, 0)) pt_131 rfl rfl,
  fun d l0 l1 i a w Q => px_goO (q := (.aaload, 1, px_x0)) (S' := fun v => (16, [l0, l1], [v], w, 0)) pt_131 rfl rfl,
  fun d l0 l1 s0 w Q => r_goto pt_131 rfl rfl,
  fun d l0 l1 w Q => px_go (q := (.aconst_null, 1, px_x0)) (S' := (20, [l0, l1], [.null], w, 0)) pt_131 rfl rfl,
  fun d l0 l1 a w Q => px_ret (q := (.areturn, 1, px_x0)) pt_131 rfl rfl,
  fun d l0 l1 w Q => px_ret (q := (.areturn, 1, px_x0)) pt_131 rfl rfl⟩
/-- AllSworn.imageAt(I)LAllSworn$Realm; -/
theorem S132 : (∀ (d : Nat) (v0 v1 : Value) (w : px_H) (Q : Option Value → px_H → Prop), wc d 132 [v0, v1] w Q ↔ wp d 132 0 [some v0, some v1] [] w 0 Q) ∧
  (∀ (d : Nat) (l0 : Option Value) (x : Int32) (w : px_H) (Q : Option Value → px_H → Prop), wp d 132 0 [l0, some (.int x)] [] w 0 Q ↔ wp d 132 1 [l0, some (.int x)] [.int x] w 0 Q) ∧
  (∀ (d : Nat) (l0 l1 : Option Value) (x : Int32) (w : px_H) (Q : Option Value → px_H → Prop), wp d 132 1 [l0, l1] [.int x] w 0 Q ↔ if x < 0 then wp d 132 18 [l0, l1] [] w 0 Q else wp d 132 4 [l0, l1] [] w 0 Q) ∧
  (∀ (d : Nat) (l0 : Option Value) (x : Int32) (w : px_H) (Q : Option Value → px_H → Prop), wp d 132 4 [l0, some (.int x)] [] w 0 Q ↔ wp d 132 5 [l0, some (.int x)] [.int x] w 0 Q) ∧
  (∀ (d : Nat) (l0 l1 : Option Value) (s0 : Value)  (w : px_H) (Q : Option Value → px_H → Prop), wp d 132 5 [l0, l1] [s0] w 0 Q ↔ wp d 132 6 [l0, l1] [.int 2, s0] w 0 Q) ∧
  (∀ (d : Nat) (l0 l1 : Option Value) (x y : Int32) (w : px_H) (Q : Option Value → px_H → Prop), wp d 132 6 [l0, l1] [.int y, .int x] w 0 Q ↔ if y ≤ x then wp d 132 18 [l0, l1] [] w 0 Q else wp d 132 9 [l0, l1] [] w 0 Q) ∧
  (∀ (d : Nat) (l1 : Option Value) (a : Nat) (w : px_H) (Q : Option Value → px_H → Prop), wp d 132 9 [some (.ref a), l1] [] w 0 Q ↔ wp d 132 10 [some (.ref a), l1] [.ref a] w 0 Q) ∧
  (∀ (d : Nat) (l0 l1 : Option Value) (a : Nat) (w : px_H) (Q : Option Value → px_H → Prop), wp d 132 10 [l0, l1] [.ref a] w 0 Q ↔ px_op (px_fld w a [(10, 0)] 4) (fun v => wp d 132 13 [l0, l1] [v] w 0 Q)) ∧
  (∀ (d : Nat) (l0 : Option Value) (s0 : Value) (x : Int32) (w : px_H) (Q : Option Value → px_H → Prop), wp d 132 13 [l0, some (.int x)] [s0] w 0 Q ↔ wp d 132 14 [l0, some (.int x)] [.int x, s0] w 0 Q) ∧
  (∀ (d : Nat) (l0 l1 : Option Value) (i : Int32) (a : Nat) (w : px_H) (Q : Option Value → px_H → Prop), wp d 132 14 [l0, l1] [.int i, .ref a] w 0 Q ↔ px_op (px_rld w a i) (fun v => wp d 132 15 [l0, l1] [v] w 0 Q)) ∧
  (∀ (d : Nat) (l0 l1 : Option Value) (s0 : Value)  (w : px_H) (Q : Option Value → px_H → Prop), wp d 132 15 [l0, l1] [s0] w 0 Q ↔ wp d 132 19 [l0, l1] [s0] w 0 Q) ∧
  (∀ (d : Nat) (l0 l1 : Option Value)  (w : px_H) (Q : Option Value → px_H → Prop), wp d 132 18 [l0, l1] [] w 0 Q ↔ wp d 132 19 [l0, l1] [.null] w 0 Q) ∧
  (∀ (d : Nat) (l0 l1 : Option Value) (a : Nat) (w : px_H) (Q : Option Value → px_H → Prop), wp d 132 19 [l0, l1] [.ref a] w 0 Q ↔ Q (some (.ref a)) w) ∧
  (∀ (d : Nat) (l0 l1 : Option Value)  (w : px_H) (Q : Option Value → px_H → Prop), wp d 132 19 [l0, l1] [.null] w 0 Q ↔ Q (some .null) w) := ⟨fun d v0 v1 w Q => r_entry pt_132 (Nat.le_of_ble_eq_true rfl) rfl,
  fun d l0 x w Q => px_go (q := (.iload_n 1, 1, px_x0)) (S' := (1, [l0, some (.int x)], [.int x], w, 0)) pt_132 rfl rfl,
  fun d l0 l1 x w Q => r_if_lt pt_132 rfl rfl,
  fun d l0 x w Q => px_go (q := (.iload_n 1, 1, px_x0)) (S' := (5, [l0, some (.int x)], [.int x], w, 0)) pt_132 rfl rfl,
  fun d l0 l1 s0 w Q => r_iconst pt_132 rfl (by decide),
  fun d l0 l1 x y w Q => r_icmp_ge pt_132 rfl rfl,
  fun d l1 a w Q => px_go (q := (.aload_n 0, 1, px_x0)) (S' := (10, [some (.ref a), l1], [.ref a], w, 0)) pt_132 rfl rfl,
  fun d l0 l1 a w Q => px_goO (q := (.getfield 32, 3, (10, 4, [(10, 0)], 0, "AllSworn"))) (S' := fun v => (13, [l0, l1], [v], w, 0)) pt_132 rfl rfl,
  fun d l0 s0 x w Q => px_go (q := (.iload_n 1, 1, px_x0)) (S' := (14, [l0, some (.int x)], [.int x, s0], w, 0)) pt_132 rfl rfl,
  fun d l0 l1 i a w Q => px_goO (q := (.aaload, 1, px_x0)) (S' := fun v => (15, [l0, l1], [v], w, 0)) pt_132 rfl rfl,
  fun d l0 l1 s0 w Q => r_goto pt_132 rfl rfl,
  fun d l0 l1 w Q => px_go (q := (.aconst_null, 1, px_x0)) (S' := (19, [l0, l1], [.null], w, 0)) pt_132 rfl rfl,
  fun d l0 l1 a w Q => px_ret (q := (.areturn, 1, px_x0)) pt_132 rfl rfl,
  fun d l0 l1 w Q => px_ret (q := (.areturn, 1, px_x0)) pt_132 rfl rfl⟩
/-- AllSworn.rowsThere()I heads: [4] -/
theorem S133 : (∀ (d : Nat) (v0 : Value) (w : px_H) (Q : Option Value → px_H → Prop), wc d 133 [v0] w Q ↔ wp d 133 0 [some v0, none, none] [] w 0 Q) ∧
  (∀ (d : Nat) (l0 l1 l2 : Option Value)  (w : px_H) (Q : Option Value → px_H → Prop), wp d 133 0 [l0, l1, l2] [] w 0 Q ↔ wp d 133 1 [l0, l1, l2] [.int 0] w 0 Q) ∧
  (∀ (d : Nat) (l0 l1 l2 : Option Value) (x : Int32) (w : px_H) (Q : Option Value → px_H → Prop), wp d 133 1 [l0, l1, l2] [.int x] w 0 Q ↔ wp d 133 2 [l0, some (.int x), l2] [] w 0 Q) ∧
  (∀ (d : Nat) (l0 l1 l2 : Option Value)  (w : px_H) (Q : Option Value → px_H → Prop), wp d 133 2 [l0, l1, l2] [] w 0 Q ↔ wp d 133 3 [l0, l1, l2] [.int 0] w 0 Q) ∧
  (∀ (d : Nat) (l0 l1 l2 : Option Value) (x : Int32) (w : px_H) (Q : Option Value → px_H → Prop), wp d 133 3 [l0, l1, l2] [.int x] w 0 Q ↔ wp d 133 4 [l0, l1, some (.int x)] [] w 0 Q) ∧
  (∀ (d : Nat) (l0 l1 l2 : Option Value) (s0 : Value)  (w : px_H) (Q : Option Value → px_H → Prop), wp d 133 5 [l0, l1, l2] [s0] w 0 Q ↔ wp d 133 7 [l0, l1, l2] [.int 8, s0] w 0 Q) ∧
  (∀ (d : Nat) (l0 l1 l2 : Option Value) (x y : Int32) (w : px_H) (Q : Option Value → px_H → Prop), wp d 133 7 [l0, l1, l2] [.int y, .int x] w 0 Q ↔ if y ≤ x then wp d 133 40 [l0, l1, l2] [] w 0 Q else wp d 133 10 [l0, l1, l2] [] w 0 Q) ∧
  (∀ (d : Nat) (l1 l2 : Option Value) (a : Nat) (w : px_H) (Q : Option Value → px_H → Prop), wp d 133 10 [some (.ref a), l1, l2] [] w 0 Q ↔ wp d 133 11 [some (.ref a), l1, l2] [.ref a] w 0 Q) ∧
  (∀ (d : Nat) (l0 l1 l2 : Option Value) (a : Nat) (w : px_H) (Q : Option Value → px_H → Prop), wp d 133 11 [l0, l1, l2] [.ref a] w 0 Q ↔ px_op (px_fld w a [(10, 0)] 0) (fun v => wp d 133 14 [l0, l1, l2] [v] w 0 Q)) ∧
  (∀ (d : Nat) (l0 l1 : Option Value) (s0 : Value) (x : Int32) (w : px_H) (Q : Option Value → px_H → Prop), wp d 133 14 [l0, l1, some (.int x)] [s0] w 0 Q ↔ wp d 133 15 [l0, l1, some (.int x)] [.int x, s0] w 0 Q) ∧
  (∀ (d : Nat) (l0 l1 l2 : Option Value) (i : Int32) (a : Nat) (w : px_H) (Q : Option Value → px_H → Prop), wp d 133 15 [l0, l1, l2] [.int i, .ref a] w 0 Q ↔ px_op (px_rld w a i) (fun v => wp d 133 16 [l0, l1, l2] [v] w 0 Q)) ∧
  (∀ (d : Nat) (l0 l1 l2 : Option Value)  (w : px_H) (Q : Option Value → px_H → Prop), wp d 133 16 [l0, l1, l2] [.null] w 0 Q ↔ wp d 133 34 [l0, l1, l2] [] w 0 Q) ∧
  (∀ (d : Nat) (l0 l1 l2 : Option Value) (a : Nat) (w : px_H) (Q : Option Value → px_H → Prop), wp d 133 16 [l0, l1, l2] [.ref a] w 0 Q ↔ wp d 133 19 [l0, l1, l2] [] w 0 Q) ∧
  (∀ (d : Nat) (l1 l2 : Option Value) (a : Nat) (w : px_H) (Q : Option Value → px_H → Prop), wp d 133 19 [some (.ref a), l1, l2] [] w 0 Q ↔ wp d 133 20 [some (.ref a), l1, l2] [.ref a] w 0 Q) ∧
  (∀ (d : Nat) (l0 l1 l2 : Option Value) (a : Nat) (w : px_H) (Q : Option Value → px_H → Prop), wp d 133 20 [l0, l1, l2] [.ref a] w 0 Q ↔ px_op (px_fld w a [(10, 0)] 0) (fun v => wp d 133 23 [l0, l1, l2] [v] w 0 Q)) ∧
  (∀ (d : Nat) (l0 l1 : Option Value) (s0 : Value) (x : Int32) (w : px_H) (Q : Option Value → px_H → Prop), wp d 133 23 [l0, l1, some (.int x)] [s0] w 0 Q ↔ wp d 133 24 [l0, l1, some (.int x)] [.int x, s0] w 0 Q) ∧
  (∀ (d : Nat) (l0 l1 l2 : Option Value) (i : Int32) (a : Nat) (w : px_H) (Q : Option Value → px_H → Prop), wp d 133 24 [l0, l1, l2] [.int i, .ref a] w 0 Q ↔ px_op (px_rld w a i) (fun v => wp d 133 25 [l0, l1, l2] [v] w 0 Q)) ∧
  (∀ (d : Nat) (l0 l1 l2 : Option Value)  (b : Nat) (w : px_H) (Q : Option Value → px_H → Prop), wp (d + 1) 133 25 [l0, l1, l2] [.ref b] w 0 Q ↔ px_op (px_tgt w b [(6, 67)]) (fun v => wc d v [.ref b] w (fun r w' => wp (d + 1) 133 28 [l0, l1, l2] (r.toList ++ []) w' 0 Q))) ∧
  (∀ (d : Nat) (l0 l1 l2 : Option Value) (x : Int32) (w : px_H) (Q : Option Value → px_H → Prop), wp d 133 28 [l0, l1, l2] [.int x] w 0 Q ↔ if x = 0 then wp d 133 31 [l0, l1, l2] [] w 0 Q else wp d 133 34 [l0, l1, l2] [] w 0 Q) ∧
  (∀ (d : Nat) (l0 l2 : Option Value) (x : Int32) (w : px_H) (Q : Option Value → px_H → Prop), wp d 133 31 [l0, some (.int x), l2] [] w 0 Q ↔ wp d 133 34 [l0, some (.int (x + 1)), l2] [] w 0 Q) ∧
  (∀ (d : Nat) (l0 l1 : Option Value) (x : Int32) (w : px_H) (Q : Option Value → px_H → Prop), wp d 133 34 [l0, l1, some (.int x)] [] w 0 Q ↔ wp d 133 37 [l0, l1, some (.int (x + 1))] [] w 0 Q) ∧
  (∀ (d : Nat) (l0 l1 l2 : Option Value)  (w : px_H) (Q : Option Value → px_H → Prop), wp d 133 37 [l0, l1, l2] [] w 0 Q ↔ wp d 133 4 [l0, l1, l2] [] w 0 Q) ∧
  (∀ (d : Nat) (l0 l2 : Option Value) (x : Int32) (w : px_H) (Q : Option Value → px_H → Prop), wp d 133 40 [l0, some (.int x), l2] [] w 0 Q ↔ wp d 133 41 [l0, some (.int x), l2] [.int x] w 0 Q) ∧
  (∀ (d : Nat) (l0 l1 l2 : Option Value) (x : Int32) (w : px_H) (Q : Option Value → px_H → Prop), wp d 133 41 [l0, l1, l2] [.int x] w 0 Q ↔ Q (some (.int x)) w) := ⟨fun d v0 w Q => r_entry pt_133 (Nat.le_of_ble_eq_true rfl) rfl,
  fun d l0 l1 l2 w Q => r_iconst pt_133 rfl (by decide),
  fun d l0 l1 l2 x w Q => px_go (q := (.istore_n 1, 1, px_x0)) (S' := (2, [l0, some (.int x), l2], [], w, 0)) pt_133 rfl rfl,
  fun d l0 l1 l2 w Q => r_iconst pt_133 rfl (by decide),
  fun d l0 l1 l2 x w Q => px_go (q := (.istore_n 2, 1, px_x0)) (S' := (4, [l0, l1, some (.int x)], [], w, 0)) pt_133 rfl rfl,
  fun d l0 l1 l2 s0 w Q => r_bipush pt_133 rfl (by decide),
  fun d l0 l1 l2 x y w Q => r_icmp_ge pt_133 rfl rfl,
  fun d l1 l2 a w Q => px_go (q := (.aload_n 0, 1, px_x0)) (S' := (11, [some (.ref a), l1, l2], [.ref a], w, 0)) pt_133 rfl rfl,
  fun d l0 l1 l2 a w Q => px_goO (q := (.getfield 11, 3, (10, 0, [(10, 0)], 0, "AllSworn"))) (S' := fun v => (14, [l0, l1, l2], [v], w, 0)) pt_133 rfl rfl,
  fun d l0 l1 s0 x w Q => px_go (q := (.iload_n 2, 1, px_x0)) (S' := (15, [l0, l1, some (.int x)], [.int x, s0], w, 0)) pt_133 rfl rfl,
  fun d l0 l1 l2 i a w Q => px_goO (q := (.aaload, 1, px_x0)) (S' := fun v => (16, [l0, l1, l2], [v], w, 0)) pt_133 rfl rfl,
  fun d l0 l1 l2 w Q => r_ifnullN pt_133 rfl rfl,
  fun d l0 l1 l2 a w Q => px_go (q := (.ifnull 18, 3, px_x0)) (S' := (19, [l0, l1, l2], [], w, 0)) pt_133 rfl rfl,
  fun d l1 l2 a w Q => px_go (q := (.aload_n 0, 1, px_x0)) (S' := (20, [some (.ref a), l1, l2], [.ref a], w, 0)) pt_133 rfl rfl,
  fun d l0 l1 l2 a w Q => px_goO (q := (.getfield 11, 3, (10, 0, [(10, 0)], 0, "AllSworn"))) (S' := fun v => (23, [l0, l1, l2], [v], w, 0)) pt_133 rfl rfl,
  fun d l0 l1 s0 x w Q => px_go (q := (.iload_n 2, 1, px_x0)) (S' := (24, [l0, l1, some (.int x)], [.int x, s0], w, 0)) pt_133 rfl rfl,
  fun d l0 l1 l2 i a w Q => px_goO (q := (.aaload, 1, px_x0)) (S' := fun v => (25, [l0, l1, l2], [v], w, 0)) pt_133 rfl rfl,
  fun d l0 l1 l2 b w Q => r_callV (q := (.invokevirtual 74, 3, (33, 0, [(6, 67)], 0, ""))) pt_133 rfl rfl (List.forall_mem_cons.mpr ⟨⟨_, pt_67, Nat.le_of_ble_eq_true rfl, (Nat.le_of_ble_eq_true rfl), rfl⟩, fun _ h => absurd h List.not_mem_nil⟩),
  fun d l0 l1 l2 x w Q => r_if_ne pt_133 rfl rfl,
  fun d l0 l2 x w Q => r_iinc pt_133 rfl rfl (by decide) rfl,
  fun d l0 l1 x w Q => r_iinc pt_133 rfl rfl (by decide) rfl,
  fun d l0 l1 l2 w Q => r_goto pt_133 rfl rfl,
  fun d l0 l2 x w Q => px_go (q := (.iload_n 1, 1, px_x0)) (S' := (41, [l0, some (.int x), l2], [.int x], w, 0)) pt_133 rfl rfl,
  fun d l0 l1 l2 x w Q => px_ret (q := (.ireturn, 1, px_x0)) pt_133 rfl rfl⟩
theorem H133_4 : ∀ (d : Nat) (l0 l1 : Option Value) (x : Int32) (w : px_H) (Q : Option Value → px_H → Prop), wp d 133 4 [l0, l1, some (.int x)] [] w 0 Q ↔ wp d 133 5 [l0, l1, some (.int x)] [.int x] w 0 Q := fun d l0 l1 x w Q => px_go (q := (.iload_n 2, 1, px_x0)) (S' := (5, [l0, l1, some (.int x)], [.int x], w, 0)) pt_133 rfl rfl
/-- AllSworn.isAhead(I)Z -/
theorem S134 : (∀ (d : Nat) (v0 v1 : Value) (w : px_H) (Q : Option Value → px_H → Prop), wc d 134 [v0, v1] w Q ↔ wp d 134 0 [some v0, some v1] [] w 0 Q) ∧
  (∀ (d : Nat) (l0 : Option Value) (x : Int32) (w : px_H) (Q : Option Value → px_H → Prop), wp d 134 0 [l0, some (.int x)] [] w 0 Q ↔ wp d 134 1 [l0, some (.int x)] [.int x] w 0 Q) ∧
  (∀ (d : Nat) (l1 : Option Value) (s0 : Value) (a : Nat) (w : px_H) (Q : Option Value → px_H → Prop), wp d 134 1 [some (.ref a), l1] [s0] w 0 Q ↔ wp d 134 2 [some (.ref a), l1] [.ref a, s0] w 0 Q) ∧
  (∀ (d : Nat) (l0 l1 : Option Value) (s1 : Value) (a : Nat) (w : px_H) (Q : Option Value → px_H → Prop), wp d 134 2 [l0, l1] [.ref a, s1] w 0 Q ↔ px_op (px_fld w a [(10, 0)] 3) (fun v => wp d 134 5 [l0, l1] [v, s1] w 0 Q)) ∧
  (∀ (d : Nat) (l0 l1 : Option Value) (s1 : Value) (a : Nat) (w : px_H) (Q : Option Value → px_H → Prop), wp d 134 5 [l0, l1] [.ref a, s1] w 0 Q ↔ px_op (px_fld w a [(5, 0)] 8) (fun v => wp d 134 8 [l0, l1] [v, s1] w 0 Q)) ∧
  (∀ (d : Nat) (l0 l1 : Option Value) (x y : Int32) (w : px_H) (Q : Option Value → px_H → Prop), wp d 134 8 [l0, l1] [.int y, .int x] w 0 Q ↔ if x < y then wp d 134 29 [l0, l1] [] w 0 Q else wp d 134 11 [l0, l1] [] w 0 Q) ∧
  (∀ (d : Nat) (l0 : Option Value) (x : Int32) (w : px_H) (Q : Option Value → px_H → Prop), wp d 134 11 [l0, some (.int x)] [] w 0 Q ↔ wp d 134 12 [l0, some (.int x)] [.int x] w 0 Q) ∧
  (∀ (d : Nat) (l1 : Option Value) (s0 : Value) (a : Nat) (w : px_H) (Q : Option Value → px_H → Prop), wp d 134 12 [some (.ref a), l1] [s0] w 0 Q ↔ wp d 134 13 [some (.ref a), l1] [.ref a, s0] w 0 Q) ∧
  (∀ (d : Nat) (l0 l1 : Option Value) (s1 : Value) (a : Nat) (w : px_H) (Q : Option Value → px_H → Prop), wp d 134 13 [l0, l1] [.ref a, s1] w 0 Q ↔ px_op (px_fld w a [(10, 0)] 3) (fun v => wp d 134 16 [l0, l1] [v, s1] w 0 Q)) ∧
  (∀ (d : Nat) (l0 l1 : Option Value) (s1 : Value) (a : Nat) (w : px_H) (Q : Option Value → px_H → Prop), wp d 134 16 [l0, l1] [.ref a, s1] w 0 Q ↔ px_op (px_fld w a [(5, 0)] 8) (fun v => wp d 134 19 [l0, l1] [v, s1] w 0 Q)) ∧
  (∀ (d : Nat) (l0 l1 : Option Value) (s0 s1 : Value)  (w : px_H) (Q : Option Value → px_H → Prop), wp d 134 19 [l0, l1] [s0, s1] w 0 Q ↔ wp d 134 21 [l0, l1] [.int 100, s0, s1] w 0 Q) ∧
  (∀ (d : Nat) (l0 l1 : Option Value) (s2 : Value) (x y : Int32) (w : px_H) (Q : Option Value → px_H → Prop), wp d 134 21 [l0, l1] [.int y, .int x, s2] w 0 Q ↔ wp d 134 22 [l0, l1] [.int (x + y), s2] w 0 Q) ∧
  (∀ (d : Nat) (l0 l1 : Option Value) (x y : Int32) (w : px_H) (Q : Option Value → px_H → Prop), wp d 134 22 [l0, l1] [.int y, .int x] w 0 Q ↔ if y < x then wp d 134 29 [l0, l1] [] w 0 Q else wp d 134 25 [l0, l1] [] w 0 Q) ∧
  (∀ (d : Nat) (l0 l1 : Option Value)  (w : px_H) (Q : Option Value → px_H → Prop), wp d 134 25 [l0, l1] [] w 0 Q ↔ wp d 134 26 [l0, l1] [.int 1] w 0 Q) ∧
  (∀ (d : Nat) (l0 l1 : Option Value) (s0 : Value)  (w : px_H) (Q : Option Value → px_H → Prop), wp d 134 26 [l0, l1] [s0] w 0 Q ↔ wp d 134 30 [l0, l1] [s0] w 0 Q) ∧
  (∀ (d : Nat) (l0 l1 : Option Value)  (w : px_H) (Q : Option Value → px_H → Prop), wp d 134 29 [l0, l1] [] w 0 Q ↔ wp d 134 30 [l0, l1] [.int 0] w 0 Q) ∧
  (∀ (d : Nat) (l0 l1 : Option Value) (x : Int32) (w : px_H) (Q : Option Value → px_H → Prop), wp d 134 30 [l0, l1] [.int x] w 0 Q ↔ (x = 0 ∨ x = 1) ∧ Q (some (.int x)) w) := ⟨fun d v0 v1 w Q => r_entry pt_134 (Nat.le_of_ble_eq_true rfl) rfl,
  fun d l0 x w Q => px_go (q := (.iload_n 1, 1, px_x0)) (S' := (1, [l0, some (.int x)], [.int x], w, 0)) pt_134 rfl rfl,
  fun d l1 s0 a w Q => px_go (q := (.aload_n 0, 1, px_x0)) (S' := (2, [some (.ref a), l1], [.ref a, s0], w, 0)) pt_134 rfl rfl,
  fun d l0 l1 s1 a w Q => px_goO (q := (.getfield 29, 3, (10, 3, [(10, 0)], 0, "AllSworn"))) (S' := fun v => (5, [l0, l1], [v, s1], w, 0)) pt_134 rfl rfl,
  fun d l0 l1 s1 a w Q => px_goO (q := (.getfield 129, 3, (11, 8, [(5, 0)], 0, "AllSworn$Realm"))) (S' := fun v => (8, [l0, l1], [v, s1], w, 0)) pt_134 rfl rfl,
  fun d l0 l1 x y w Q => r_icmp_lt pt_134 rfl rfl,
  fun d l0 x w Q => px_go (q := (.iload_n 1, 1, px_x0)) (S' := (12, [l0, some (.int x)], [.int x], w, 0)) pt_134 rfl rfl,
  fun d l1 s0 a w Q => px_go (q := (.aload_n 0, 1, px_x0)) (S' := (13, [some (.ref a), l1], [.ref a, s0], w, 0)) pt_134 rfl rfl,
  fun d l0 l1 s1 a w Q => px_goO (q := (.getfield 29, 3, (10, 3, [(10, 0)], 0, "AllSworn"))) (S' := fun v => (16, [l0, l1], [v, s1], w, 0)) pt_134 rfl rfl,
  fun d l0 l1 s1 a w Q => px_goO (q := (.getfield 129, 3, (11, 8, [(5, 0)], 0, "AllSworn$Realm"))) (S' := fun v => (19, [l0, l1], [v, s1], w, 0)) pt_134 rfl rfl,
  fun d l0 l1 s0 s1 w Q => r_bipush pt_134 rfl (by decide),
  fun d l0 l1 s2 x y w Q => px_go (q := (.iadd, 1, px_x0)) (S' := (22, [l0, l1], [.int (x + y), s2], w, 0)) pt_134 rfl rfl,
  fun d l0 l1 x y w Q => r_icmp_gt pt_134 rfl rfl,
  fun d l0 l1 w Q => r_iconst pt_134 rfl (by decide),
  fun d l0 l1 s0 w Q => r_goto pt_134 rfl rfl,
  fun d l0 l1 w Q => r_iconst pt_134 rfl (by decide),
  fun d l0 l1 x w Q => px_retI (q := (.ireturn, 1, px_x0)) pt_134 rfl rfl⟩
/-- AllSworn.isPair(I)Z -/
theorem S135 : (∀ (d : Nat) (v0 : Value) (w : px_H) (Q : Option Value → px_H → Prop), wc d 135 [v0] w Q ↔ wp d 135 0 [some v0] [] w 0 Q) ∧
  (∀ (d : Nat) (x : Int32) (w : px_H) (Q : Option Value → px_H → Prop), wp d 135 0 [some (.int x)] [] w 0 Q ↔ wp d 135 1 [some (.int x)] [.int x] w 0 Q) ∧
  (∀ (d : Nat) (l0 : Option Value) (x : Int32) (w : px_H) (Q : Option Value → px_H → Prop), wp d 135 1 [l0] [.int x] w 0 Q ↔ if x = 0 then wp d 135 9 [l0] [] w 0 Q else wp d 135 4 [l0] [] w 0 Q) ∧
  (∀ (d : Nat) (x : Int32) (w : px_H) (Q : Option Value → px_H → Prop), wp d 135 4 [some (.int x)] [] w 0 Q ↔ wp d 135 5 [some (.int x)] [.int x] w 0 Q) ∧
  (∀ (d : Nat) (l0 : Option Value) (s0 : Value)  (w : px_H) (Q : Option Value → px_H → Prop), wp d 135 5 [l0] [s0] w 0 Q ↔ wp d 135 6 [l0] [.int 1, s0] w 0 Q) ∧
  (∀ (d : Nat) (l0 : Option Value) (x y : Int32) (w : px_H) (Q : Option Value → px_H → Prop), wp d 135 6 [l0] [.int y, .int x] w 0 Q ↔ if x = y then wp d 135 9 [l0] [] w 0 Q else wp d 135 13 [l0] [] w 0 Q) ∧
  (∀ (d : Nat) (l0 : Option Value)  (w : px_H) (Q : Option Value → px_H → Prop), wp d 135 9 [l0] [] w 0 Q ↔ wp d 135 10 [l0] [.int 1] w 0 Q) ∧
  (∀ (d : Nat) (l0 : Option Value) (s0 : Value)  (w : px_H) (Q : Option Value → px_H → Prop), wp d 135 10 [l0] [s0] w 0 Q ↔ wp d 135 14 [l0] [s0] w 0 Q) ∧
  (∀ (d : Nat) (l0 : Option Value)  (w : px_H) (Q : Option Value → px_H → Prop), wp d 135 13 [l0] [] w 0 Q ↔ wp d 135 14 [l0] [.int 0] w 0 Q) ∧
  (∀ (d : Nat) (l0 : Option Value) (x : Int32) (w : px_H) (Q : Option Value → px_H → Prop), wp d 135 14 [l0] [.int x] w 0 Q ↔ (x = 0 ∨ x = 1) ∧ Q (some (.int x)) w) := ⟨fun d v0 w Q => r_entry pt_135 (Nat.le_of_ble_eq_true rfl) rfl,
  fun d x w Q => px_go (q := (.iload_n 0, 1, px_x0)) (S' := (1, [some (.int x)], [.int x], w, 0)) pt_135 rfl rfl,
  fun d l0 x w Q => r_if_eq pt_135 rfl rfl,
  fun d x w Q => px_go (q := (.iload_n 0, 1, px_x0)) (S' := (5, [some (.int x)], [.int x], w, 0)) pt_135 rfl rfl,
  fun d l0 s0 w Q => r_iconst pt_135 rfl (by decide),
  fun d l0 x y w Q => r_icmp_ne pt_135 rfl rfl,
  fun d l0 w Q => r_iconst pt_135 rfl (by decide),
  fun d l0 s0 w Q => r_goto pt_135 rfl rfl,
  fun d l0 w Q => r_iconst pt_135 rfl (by decide),
  fun d l0 x w Q => px_retI (q := (.ireturn, 1, px_x0)) pt_135 rfl rfl⟩
/-- AllSworn.sizeOrSet(II)I -/
theorem S136 : (∀ (d : Nat) (v0 v1 : Value) (w : px_H) (Q : Option Value → px_H → Prop), wc d 136 [v0, v1] w Q ↔ wp d 136 0 [some v0, some v1] [] w 0 Q) ∧
  (∀ (d : Nat) (l1 : Option Value) (x : Int32) (w : px_H) (Q : Option Value → px_H → Prop), wp d 136 0 [some (.int x), l1] [] w 0 Q ↔ wp d 136 1 [some (.int x), l1] [.int x] w 0 Q) ∧
  (∀ (d : Nat) (l0 l1 : Option Value) (s0 : Value)  (w : px_H) (Q : Option Value → px_H → Prop), wp d 136 1 [l0, l1] [s0] w 0 Q ↔ wp d 136 4 [l0, l1] [.int (-1000000), s0] w 0 Q) ∧
  (∀ (d : Nat) (l0 l1 : Option Value) (x y : Int32) (w : px_H) (Q : Option Value → px_H → Prop), wp d 136 4 [l0, l1] [.int y, .int x] w 0 Q ↔ if x = y then wp d 136 12 [l0, l1] [] w 0 Q else wp d 136 7 [l0, l1] [] w 0 Q) ∧
  (∀ (d : Nat) (l0 : Option Value) (x : Int32) (w : px_H) (Q : Option Value → px_H → Prop), wp d 136 7 [l0, some (.int x)] [] w 0 Q ↔ wp d 136 8 [l0, some (.int x)] [.int x] w 0 Q) ∧
  (∀ (d : Nat) (l0 l1 : Option Value) (s0 : Value)  (w : px_H) (Q : Option Value → px_H → Prop), wp d 136 8 [l0, l1] [s0] w 0 Q ↔ wp d 136 9 [l0, l1] [.int 1, s0] w 0 Q) ∧
  (∀ (d : Nat) (l0 l1 : Option Value) (x y : Int32) (w : px_H) (Q : Option Value → px_H → Prop), wp d 136 9 [l0, l1] [.int y, .int x] w 0 Q ↔ if x = y then wp d 136 12 [l0, l1] [] w 0 Q else wp d 136 16 [l0, l1] [] w 0 Q) ∧
  (∀ (d : Nat) (l1 : Option Value) (x : Int32) (w : px_H) (Q : Option Value → px_H → Prop), wp d 136 12 [some (.int x), l1] [] w 0 Q ↔ wp d 136 13 [some (.int x), l1] [.int x] w 0 Q) ∧
  (∀ (d : Nat) (l0 l1 : Option Value) (s0 : Value)  (w : px_H) (Q : Option Value → px_H → Prop), wp d 136 13 [l0, l1] [s0] w 0 Q ↔ wp d 136 20 [l0, l1] [s0] w 0 Q) ∧
  (∀ (d : Nat) (l1 : Option Value) (x : Int32) (w : px_H) (Q : Option Value → px_H → Prop), wp d 136 16 [some (.int x), l1] [] w 0 Q ↔ wp d 136 17 [some (.int x), l1] [.int x] w 0 Q) ∧
  (∀ (d : Nat) (l0 l1 : Option Value) (v0 : Value) (w : px_H) (Q : Option Value → px_H → Prop), wp (d + 1) 136 17 [l0, l1] [v0] w 0 Q ↔ wc d 222 [v0] w (fun r w' => wp (d + 1) 136 20 [l0, l1] (r.toList ++ []) w' 0 Q)) ∧
  (∀ (d : Nat) (l0 l1 : Option Value) (x : Int32) (w : px_H) (Q : Option Value → px_H → Prop), wp d 136 20 [l0, l1] [.int x] w 0 Q ↔ Q (some (.int x)) w) := ⟨fun d v0 v1 w Q => r_entry pt_136 (Nat.le_of_ble_eq_true rfl) rfl,
  fun d l1 x w Q => px_go (q := (.iload_n 0, 1, px_x0)) (S' := (1, [some (.int x), l1], [.int x], w, 0)) pt_136 rfl rfl,
  fun d l0 l1 s0 w Q => px_go (q := (.ldc_w 292, 3, (0, 0, [], (-1000000), ""))) (S' := (4, [l0, l1], [.int (-1000000), s0], w, 0)) pt_136 rfl rfl,
  fun d l0 l1 x y w Q => r_icmp_eq pt_136 rfl rfl,
  fun d l0 x w Q => px_go (q := (.iload_n 1, 1, px_x0)) (S' := (8, [l0, some (.int x)], [.int x], w, 0)) pt_136 rfl rfl,
  fun d l0 l1 s0 w Q => r_iconst pt_136 rfl (by decide),
  fun d l0 l1 x y w Q => r_icmp_ne pt_136 rfl rfl,
  fun d l1 x w Q => px_go (q := (.iload_n 0, 1, px_x0)) (S' := (13, [some (.int x), l1], [.int x], w, 0)) pt_136 rfl rfl,
  fun d l0 l1 s0 w Q => r_goto pt_136 rfl rfl,
  fun d l1 x w Q => px_go (q := (.iload_n 0, 1, px_x0)) (S' := (17, [some (.int x), l1], [.int x], w, 0)) pt_136 rfl rfl,
  fun d l0 l1 v0 w Q => r_call (q := (.invokestatic 231, 3, (30, 1, [(0, 222)], 0, ""))) pt_136 rfl rfl pt_222 (Nat.le_of_ble_eq_true rfl) (Nat.le_of_ble_eq_true rfl) rfl,
  fun d l0 l1 x w Q => px_ret (q := (.ireturn, 1, px_x0)) pt_136 rfl rfl⟩
/-- AllSworn.power(II)I heads: [4] -/
theorem S137 : (∀ (d : Nat) (v0 v1 : Value) (w : px_H) (Q : Option Value → px_H → Prop), wc d 137 [v0, v1] w Q ↔ wp d 137 0 [some v0, some v1, none, none] [] w 0 Q) ∧
  (∀ (d : Nat) (l0 l1 l2 l3 : Option Value)  (w : px_H) (Q : Option Value → px_H → Prop), wp d 137 0 [l0, l1, l2, l3] [] w 0 Q ↔ wp d 137 1 [l0, l1, l2, l3] [.int 1] w 0 Q) ∧
  (∀ (d : Nat) (l0 l1 l2 l3 : Option Value) (x : Int32) (w : px_H) (Q : Option Value → px_H → Prop), wp d 137 1 [l0, l1, l2, l3] [.int x] w 0 Q ↔ wp d 137 2 [l0, l1, some (.int x), l3] [] w 0 Q) ∧
  (∀ (d : Nat) (l0 l1 l2 l3 : Option Value)  (w : px_H) (Q : Option Value → px_H → Prop), wp d 137 2 [l0, l1, l2, l3] [] w 0 Q ↔ wp d 137 3 [l0, l1, l2, l3] [.int 0] w 0 Q) ∧
  (∀ (d : Nat) (l0 l1 l2 l3 : Option Value) (x : Int32) (w : px_H) (Q : Option Value → px_H → Prop), wp d 137 3 [l0, l1, l2, l3] [.int x] w 0 Q ↔ wp d 137 4 [l0, l1, l2, some (.int x)] [] w 0 Q) ∧
  (∀ (d : Nat) (l0 l2 l3 : Option Value) (s0 : Value) (x : Int32) (w : px_H) (Q : Option Value → px_H → Prop), wp d 137 5 [l0, some (.int x), l2, l3] [s0] w 0 Q ↔ wp d 137 6 [l0, some (.int x), l2, l3] [.int x, s0] w 0 Q) ∧
  (∀ (d : Nat) (l0 l1 l2 l3 : Option Value) (x y : Int32) (w : px_H) (Q : Option Value → px_H → Prop), wp d 137 6 [l0, l1, l2, l3] [.int y, .int x] w 0 Q ↔ if y ≤ x then wp d 137 19 [l0, l1, l2, l3] [] w 0 Q else wp d 137 9 [l0, l1, l2, l3] [] w 0 Q) ∧
  (∀ (d : Nat) (l0 l1 l3 : Option Value) (x : Int32) (w : px_H) (Q : Option Value → px_H → Prop), wp d 137 9 [l0, l1, some (.int x), l3] [] w 0 Q ↔ wp d 137 10 [l0, l1, some (.int x), l3] [.int x] w 0 Q) ∧
  (∀ (d : Nat) (l1 l2 l3 : Option Value) (s0 : Value) (x : Int32) (w : px_H) (Q : Option Value → px_H → Prop), wp d 137 10 [some (.int x), l1, l2, l3] [s0] w 0 Q ↔ wp d 137 11 [some (.int x), l1, l2, l3] [.int x, s0] w 0 Q) ∧
  (∀ (d : Nat) (l0 l1 l2 l3 : Option Value) (x y : Int32) (w : px_H) (Q : Option Value → px_H → Prop), wp d 137 11 [l0, l1, l2, l3] [.int y, .int x] w 0 Q ↔ wp d 137 12 [l0, l1, l2, l3] [.int (x * y)] w 0 Q) ∧
  (∀ (d : Nat) (l0 l1 l2 l3 : Option Value) (x : Int32) (w : px_H) (Q : Option Value → px_H → Prop), wp d 137 12 [l0, l1, l2, l3] [.int x] w 0 Q ↔ wp d 137 13 [l0, l1, some (.int x), l3] [] w 0 Q) ∧
  (∀ (d : Nat) (l0 l1 l2 : Option Value) (x : Int32) (w : px_H) (Q : Option Value → px_H → Prop), wp d 137 13 [l0, l1, l2, some (.int x)] [] w 0 Q ↔ wp d 137 16 [l0, l1, l2, some (.int (x + 1))] [] w 0 Q) ∧
  (∀ (d : Nat) (l0 l1 l2 l3 : Option Value)  (w : px_H) (Q : Option Value → px_H → Prop), wp d 137 16 [l0, l1, l2, l3] [] w 0 Q ↔ wp d 137 4 [l0, l1, l2, l3] [] w 0 Q) ∧
  (∀ (d : Nat) (l0 l1 l3 : Option Value) (x : Int32) (w : px_H) (Q : Option Value → px_H → Prop), wp d 137 19 [l0, l1, some (.int x), l3] [] w 0 Q ↔ wp d 137 20 [l0, l1, some (.int x), l3] [.int x] w 0 Q) ∧
  (∀ (d : Nat) (l0 l1 l2 l3 : Option Value) (x : Int32) (w : px_H) (Q : Option Value → px_H → Prop), wp d 137 20 [l0, l1, l2, l3] [.int x] w 0 Q ↔ Q (some (.int x)) w) := ⟨fun d v0 v1 w Q => r_entry pt_137 (Nat.le_of_ble_eq_true rfl) rfl,
  fun d l0 l1 l2 l3 w Q => r_iconst pt_137 rfl (by decide),
  fun d l0 l1 l2 l3 x w Q => px_go (q := (.istore_n 2, 1, px_x0)) (S' := (2, [l0, l1, some (.int x), l3], [], w, 0)) pt_137 rfl rfl,
  fun d l0 l1 l2 l3 w Q => r_iconst pt_137 rfl (by decide),
  fun d l0 l1 l2 l3 x w Q => px_go (q := (.istore_n 3, 1, px_x0)) (S' := (4, [l0, l1, l2, some (.int x)], [], w, 0)) pt_137 rfl rfl,
  fun d l0 l2 l3 s0 x w Q => px_go (q := (.iload_n 1, 1, px_x0)) (S' := (6, [l0, some (.int x), l2, l3], [.int x, s0], w, 0)) pt_137 rfl rfl,
  fun d l0 l1 l2 l3 x y w Q => r_icmp_ge pt_137 rfl rfl,
  fun d l0 l1 l3 x w Q => px_go (q := (.iload_n 2, 1, px_x0)) (S' := (10, [l0, l1, some (.int x), l3], [.int x], w, 0)) pt_137 rfl rfl,
  fun d l1 l2 l3 s0 x w Q => px_go (q := (.iload_n 0, 1, px_x0)) (S' := (11, [some (.int x), l1, l2, l3], [.int x, s0], w, 0)) pt_137 rfl rfl,
  fun d l0 l1 l2 l3 x y w Q => px_go (q := (.imul, 1, px_x0)) (S' := (12, [l0, l1, l2, l3], [.int (x * y)], w, 0)) pt_137 rfl rfl,
  fun d l0 l1 l2 l3 x w Q => px_go (q := (.istore_n 2, 1, px_x0)) (S' := (13, [l0, l1, some (.int x), l3], [], w, 0)) pt_137 rfl rfl,
  fun d l0 l1 l2 x w Q => r_iinc pt_137 rfl rfl (by decide) rfl,
  fun d l0 l1 l2 l3 w Q => r_goto pt_137 rfl rfl,
  fun d l0 l1 l3 x w Q => px_go (q := (.iload_n 2, 1, px_x0)) (S' := (20, [l0, l1, some (.int x), l3], [.int x], w, 0)) pt_137 rfl rfl,
  fun d l0 l1 l2 l3 x w Q => px_ret (q := (.ireturn, 1, px_x0)) pt_137 rfl rfl⟩
theorem H137_4 : ∀ (d : Nat) (l0 l1 l2 : Option Value) (x : Int32) (w : px_H) (Q : Option Value → px_H → Prop), wp d 137 4 [l0, l1, l2, some (.int x)] [] w 0 Q ↔ wp d 137 5 [l0, l1, l2, some (.int x)] [.int x] w 0 Q := fun d l0 l1 l2 x w Q => px_go (q := (.iload_n 3, 1, px_x0)) (S' := (5, [l0, l1, l2, some (.int x)], [.int x], w, 0)) pt_137 rfl rfl
/-- AllSworn.sharedDivisor(II)I heads: [7] -/
theorem S138 : (∀ (d : Nat) (v0 v1 : Value) (w : px_H) (Q : Option Value → px_H → Prop), wc d 138 [v0, v1] w Q ↔ wp d 138 0 [some v0, some v1, none, none, none, none] [] w 0 Q) ∧
  (∀ (d : Nat) (l1 l2 l3 l4 l5 : Option Value) (x : Int32) (w : px_H) (Q : Option Value → px_H → Prop), wp d 138 0 [some (.int x), l1, l2, l3, l4, l5] [] w 0 Q ↔ wp d 138 1 [some (.int x), l1, l2, l3, l4, l5] [.int x] w 0 Q) ∧
  (∀ (d : Nat) (l0 l1 l2 l3 l4 l5 : Option Value) (x : Int32) (w : px_H) (Q : Option Value → px_H → Prop), wp d 138 1 [l0, l1, l2, l3, l4, l5] [.int x] w 0 Q ↔ wp d 138 2 [l0, l1, some (.int x), l3, l4, l5] [] w 0 Q) ∧
  (∀ (d : Nat) (l0 l2 l3 l4 l5 : Option Value) (x : Int32) (w : px_H) (Q : Option Value → px_H → Prop), wp d 138 2 [l0, some (.int x), l2, l3, l4, l5] [] w 0 Q ↔ wp d 138 3 [l0, some (.int x), l2, l3, l4, l5] [.int x] w 0 Q) ∧
  (∀ (d : Nat) (l0 l1 l2 l3 l4 l5 : Option Value) (x : Int32) (w : px_H) (Q : Option Value → px_H → Prop), wp d 138 3 [l0, l1, l2, l3, l4, l5] [.int x] w 0 Q ↔ wp d 138 4 [l0, l1, l2, some (.int x), l4, l5] [] w 0 Q) ∧
  (∀ (d : Nat) (l0 l1 l2 l3 l4 l5 : Option Value)  (w : px_H) (Q : Option Value → px_H → Prop), wp d 138 4 [l0, l1, l2, l3, l4, l5] [] w 0 Q ↔ wp d 138 5 [l0, l1, l2, l3, l4, l5] [.int 0] w 0 Q) ∧
  (∀ (d : Nat) (l0 l1 l2 l3 l4 l5 : Option Value) (x : Int32) (w : px_H) (Q : Option Value → px_H → Prop), wp d 138 5 [l0, l1, l2, l3, l4, l5] [.int x] w 0 Q ↔ wp d 138 7 [l0, l1, l2, l3, some (.int x), l5] [] w 0 Q) ∧
  (∀ (d : Nat) (l0 l1 l2 l3 l4 l5 : Option Value) (s0 : Value)  (w : px_H) (Q : Option Value → px_H → Prop), wp d 138 9 [l0, l1, l2, l3, l4, l5] [s0] w 0 Q ↔ wp d 138 11 [l0, l1, l2, l3, l4, l5] [.int 64, s0] w 0 Q) ∧
  (∀ (d : Nat) (l0 l1 l2 l3 l4 l5 : Option Value) (x y : Int32) (w : px_H) (Q : Option Value → px_H → Prop), wp d 138 11 [l0, l1, l2, l3, l4, l5] [.int y, .int x] w 0 Q ↔ if y ≤ x then wp d 138 34 [l0, l1, l2, l3, l4, l5] [] w 0 Q else wp d 138 14 [l0, l1, l2, l3, l4, l5] [] w 0 Q) ∧
  (∀ (d : Nat) (l0 l1 l3 l4 l5 : Option Value) (x : Int32) (w : px_H) (Q : Option Value → px_H → Prop), wp d 138 14 [l0, l1, some (.int x), l3, l4, l5] [] w 0 Q ↔ wp d 138 15 [l0, l1, some (.int x), l3, l4, l5] [.int x] w 0 Q) ∧
  (∀ (d : Nat) (l0 l1 l2 l3 l4 l5 : Option Value) (x : Int32) (w : px_H) (Q : Option Value → px_H → Prop), wp d 138 15 [l0, l1, l2, l3, l4, l5] [.int x] w 0 Q ↔ if x = 0 then wp d 138 34 [l0, l1, l2, l3, l4, l5] [] w 0 Q else wp d 138 18 [l0, l1, l2, l3, l4, l5] [] w 0 Q) ∧
  (∀ (d : Nat) (l0 l1 l2 l4 l5 : Option Value) (x : Int32) (w : px_H) (Q : Option Value → px_H → Prop), wp d 138 18 [l0, l1, l2, some (.int x), l4, l5] [] w 0 Q ↔ wp d 138 19 [l0, l1, l2, some (.int x), l4, l5] [.int x] w 0 Q) ∧
  (∀ (d : Nat) (l0 l1 l3 l4 l5 : Option Value) (s0 : Value) (x : Int32) (w : px_H) (Q : Option Value → px_H → Prop), wp d 138 19 [l0, l1, some (.int x), l3, l4, l5] [s0] w 0 Q ↔ wp d 138 20 [l0, l1, some (.int x), l3, l4, l5] [.int x, s0] w 0 Q) ∧
  (∀ (d : Nat) (l0 l1 l2 l3 l4 l5 : Option Value) (x y : Int32) (w : px_H) (Q : Option Value → px_H → Prop), wp d 138 20 [l0, l1, l2, l3, l4, l5] [.int y, .int x] w 0 Q ↔ px_op (if y = 0 then none else some (x - x / y * y)) (fun z => wp d 138 21 [l0, l1, l2, l3, l4, l5] [.int z] w 0 Q)) ∧
  (∀ (d : Nat) (l0 l1 l2 l3 l4 l5 : Option Value) (x : Int32) (w : px_H) (Q : Option Value → px_H → Prop), wp d 138 21 [l0, l1, l2, l3, l4, l5] [.int x] w 0 Q ↔ wp d 138 23 [l0, l1, l2, l3, l4, some (.int x)] [] w 0 Q) ∧
  (∀ (d : Nat) (l0 l1 l3 l4 l5 : Option Value) (x : Int32) (w : px_H) (Q : Option Value → px_H → Prop), wp d 138 23 [l0, l1, some (.int x), l3, l4, l5] [] w 0 Q ↔ wp d 138 24 [l0, l1, some (.int x), l3, l4, l5] [.int x] w 0 Q) ∧
  (∀ (d : Nat) (l0 l1 l2 l3 l4 l5 : Option Value) (x : Int32) (w : px_H) (Q : Option Value → px_H → Prop), wp d 138 24 [l0, l1, l2, l3, l4, l5] [.int x] w 0 Q ↔ wp d 138 25 [l0, l1, l2, some (.int x), l4, l5] [] w 0 Q) ∧
  (∀ (d : Nat) (l0 l1 l2 l3 l4 : Option Value) (x : Int32) (w : px_H) (Q : Option Value → px_H → Prop), wp d 138 25 [l0, l1, l2, l3, l4, some (.int x)] [] w 0 Q ↔ wp d 138 27 [l0, l1, l2, l3, l4, some (.int x)] [.int x] w 0 Q) ∧
  (∀ (d : Nat) (l0 l1 l2 l3 l4 l5 : Option Value) (x : Int32) (w : px_H) (Q : Option Value → px_H → Prop), wp d 138 27 [l0, l1, l2, l3, l4, l5] [.int x] w 0 Q ↔ wp d 138 28 [l0, l1, some (.int x), l3, l4, l5] [] w 0 Q) ∧
  (∀ (d : Nat) (l0 l1 l2 l3 l5 : Option Value) (x : Int32) (w : px_H) (Q : Option Value → px_H → Prop), wp d 138 28 [l0, l1, l2, l3, some (.int x), l5] [] w 0 Q ↔ wp d 138 31 [l0, l1, l2, l3, some (.int (x + 1)), l5] [] w 0 Q) ∧
  (∀ (d : Nat) (l0 l1 l2 l3 l4 l5 : Option Value)  (w : px_H) (Q : Option Value → px_H → Prop), wp d 138 31 [l0, l1, l2, l3, l4, l5] [] w 0 Q ↔ wp d 138 7 [l0, l1, l2, l3, l4, l5] [] w 0 Q) ∧
  (∀ (d : Nat) (l0 l1 l2 l4 l5 : Option Value) (x : Int32) (w : px_H) (Q : Option Value → px_H → Prop), wp d 138 34 [l0, l1, l2, some (.int x), l4, l5] [] w 0 Q ↔ wp d 138 35 [l0, l1, l2, some (.int x), l4, l5] [.int x] w 0 Q) ∧
  (∀ (d : Nat) (l0 l1 l2 l3 l4 l5 : Option Value) (x : Int32) (w : px_H) (Q : Option Value → px_H → Prop), wp d 138 35 [l0, l1, l2, l3, l4, l5] [.int x] w 0 Q ↔ Q (some (.int x)) w) := ⟨fun d v0 v1 w Q => r_entry pt_138 (Nat.le_of_ble_eq_true rfl) rfl,
  fun d l1 l2 l3 l4 l5 x w Q => px_go (q := (.iload_n 0, 1, px_x0)) (S' := (1, [some (.int x), l1, l2, l3, l4, l5], [.int x], w, 0)) pt_138 rfl rfl,
  fun d l0 l1 l2 l3 l4 l5 x w Q => px_go (q := (.istore_n 2, 1, px_x0)) (S' := (2, [l0, l1, some (.int x), l3, l4, l5], [], w, 0)) pt_138 rfl rfl,
  fun d l0 l2 l3 l4 l5 x w Q => px_go (q := (.iload_n 1, 1, px_x0)) (S' := (3, [l0, some (.int x), l2, l3, l4, l5], [.int x], w, 0)) pt_138 rfl rfl,
  fun d l0 l1 l2 l3 l4 l5 x w Q => px_go (q := (.istore_n 3, 1, px_x0)) (S' := (4, [l0, l1, l2, some (.int x), l4, l5], [], w, 0)) pt_138 rfl rfl,
  fun d l0 l1 l2 l3 l4 l5 w Q => r_iconst pt_138 rfl (by decide),
  fun d l0 l1 l2 l3 l4 l5 x w Q => px_go (q := (.istore 4, 2, px_x0)) (S' := (7, [l0, l1, l2, l3, some (.int x), l5], [], w, 0)) pt_138 rfl rfl,
  fun d l0 l1 l2 l3 l4 l5 s0 w Q => r_bipush pt_138 rfl (by decide),
  fun d l0 l1 l2 l3 l4 l5 x y w Q => r_icmp_ge pt_138 rfl rfl,
  fun d l0 l1 l3 l4 l5 x w Q => px_go (q := (.iload_n 2, 1, px_x0)) (S' := (15, [l0, l1, some (.int x), l3, l4, l5], [.int x], w, 0)) pt_138 rfl rfl,
  fun d l0 l1 l2 l3 l4 l5 x w Q => r_if_eq pt_138 rfl rfl,
  fun d l0 l1 l2 l4 l5 x w Q => px_go (q := (.iload_n 3, 1, px_x0)) (S' := (19, [l0, l1, l2, some (.int x), l4, l5], [.int x], w, 0)) pt_138 rfl rfl,
  fun d l0 l1 l3 l4 l5 s0 x w Q => px_go (q := (.iload_n 2, 1, px_x0)) (S' := (20, [l0, l1, some (.int x), l3, l4, l5], [.int x, s0], w, 0)) pt_138 rfl rfl,
  fun d l0 l1 l2 l3 l4 l5 x y w Q => px_goO (q := (.irem, 1, px_x0)) (S' := fun z => (21, [l0, l1, l2, l3, l4, l5], [.int z], w, 0)) pt_138 rfl rfl,
  fun d l0 l1 l2 l3 l4 l5 x w Q => px_go (q := (.istore 5, 2, px_x0)) (S' := (23, [l0, l1, l2, l3, l4, some (.int x)], [], w, 0)) pt_138 rfl rfl,
  fun d l0 l1 l3 l4 l5 x w Q => px_go (q := (.iload_n 2, 1, px_x0)) (S' := (24, [l0, l1, some (.int x), l3, l4, l5], [.int x], w, 0)) pt_138 rfl rfl,
  fun d l0 l1 l2 l3 l4 l5 x w Q => px_go (q := (.istore_n 3, 1, px_x0)) (S' := (25, [l0, l1, l2, some (.int x), l4, l5], [], w, 0)) pt_138 rfl rfl,
  fun d l0 l1 l2 l3 l4 x w Q => px_go (q := (.iload 5, 2, px_x0)) (S' := (27, [l0, l1, l2, l3, l4, some (.int x)], [.int x], w, 0)) pt_138 rfl rfl,
  fun d l0 l1 l2 l3 l4 l5 x w Q => px_go (q := (.istore_n 2, 1, px_x0)) (S' := (28, [l0, l1, some (.int x), l3, l4, l5], [], w, 0)) pt_138 rfl rfl,
  fun d l0 l1 l2 l3 l5 x w Q => r_iinc pt_138 rfl rfl (by decide) rfl,
  fun d l0 l1 l2 l3 l4 l5 w Q => r_goto pt_138 rfl rfl,
  fun d l0 l1 l2 l4 l5 x w Q => px_go (q := (.iload_n 3, 1, px_x0)) (S' := (35, [l0, l1, l2, some (.int x), l4, l5], [.int x], w, 0)) pt_138 rfl rfl,
  fun d l0 l1 l2 l3 l4 l5 x w Q => px_ret (q := (.ireturn, 1, px_x0)) pt_138 rfl rfl⟩
theorem H138_7 : ∀ (d : Nat) (l0 l1 l2 l3 l5 : Option Value) (x : Int32) (w : px_H) (Q : Option Value → px_H → Prop), wp d 138 7 [l0, l1, l2, l3, some (.int x), l5] [] w 0 Q ↔ wp d 138 9 [l0, l1, l2, l3, some (.int x), l5] [.int x] w 0 Q := fun d l0 l1 l2 l3 l5 x w Q => px_go (q := (.iload 4, 2, px_x0)) (S' := (9, [l0, l1, l2, l3, some (.int x), l5], [.int x], w, 0)) pt_138 rfl rfl
