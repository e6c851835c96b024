theorem tst_around {xs : Nat → Int32} {Ls : Nat} {A : Nat → Nat → Int32} {B : Nat → Nat → Int64} {F : Nat → Int32} {sw : Bool} (n s : Nat) (hF : F 6 = nI n) (hn : n ≤ 10) : mv_Ev xs Ls 1 103 [.ref 28, .int (nI s)] (MW A B F sw) (some (.int 0), MW A B F sw, 0, 0) := by
  refine ev_of_wp rfl rfl rfl ?_
  refine wp_go (f' := (4, [.ref 28, .int (nI s), .int (nI 0), .int (nI 0)], [], MW A B F sw, 0, 0)) 4 rfl ?_
  sorry
