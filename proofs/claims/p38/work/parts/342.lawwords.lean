/-! the law's own methods: words -/
def xt0 : List (Nat × Cond) := [(336, Cond.constant RL 8 (1103515245)), (335, Cond.constant RL 7 (69069)), (334, Cond.code yL_cell cL_cell 3 (some .int)), (332, Cond.methodLink RL 9 yL_cell), (333, Cond.static yL_cell), (28, Cond.initialized RL), (337, Cond.constant RL 15 (2147483647)), (965, Cond.code yX9_postOf cX9_postOf 3 (some .int)), (962, Cond.methodLink RL 99 yX9_postOf), (963, Cond.instanceMethod yX9_postOf), (964, Cond.selects RX9 yX9_postOf yX9_postOf), (29, Cond.initialized RX9), (269, Cond.code yX9_account cX9_account 2 (some .int)), (266, Cond.methodLink RL 96 yX9_account), (267, Cond.instanceMethod yX9_account), (268, Cond.selects RX9 yX9_account yX9_account), (396, Cond.arrayClass .int)]
set_option maxRecDepth 20000 in
theorem Xt0 : xt0.all (fun q => decide (lw_tbl[q.1]? = some q.2) && goodWord q.2) = true := by decide +kernel
theorem u_336 : Cond.constant RL 8 (1103515245) ∈ TB := qg Xt0 0 rfl
theorem u_335 : Cond.constant RL 7 (69069) ∈ TB := qg Xt0 1 rfl
theorem u_334 : Cond.code yL_cell cL_cell 3 (some .int) ∈ TB := qg Xt0 2 rfl
theorem u_332 : Cond.methodLink RL 9 yL_cell ∈ TB := qg Xt0 3 rfl
theorem u_333 : Cond.static yL_cell ∈ TB := qg Xt0 4 rfl
theorem u_28 : Cond.initialized RL ∈ TB := qg Xt0 5 rfl
theorem u_337 : Cond.constant RL 15 (2147483647) ∈ TB := qg Xt0 6 rfl
theorem u_965 : Cond.code yX9_postOf cX9_postOf 3 (some .int) ∈ TB := qg Xt0 7 rfl
theorem u_962 : Cond.methodLink RL 99 yX9_postOf ∈ TB := qg Xt0 8 rfl
theorem u_963 : Cond.instanceMethod yX9_postOf ∈ TB := qg Xt0 9 rfl
theorem u_964 : Cond.selects RX9 yX9_postOf yX9_postOf ∈ TB := qg Xt0 10 rfl
theorem u_29 : Cond.initialized RX9 ∈ TB := qg Xt0 11 rfl
theorem u_269 : Cond.code yX9_account cX9_account 2 (some .int) ∈ TB := qg Xt0 12 rfl
theorem u_266 : Cond.methodLink RL 96 yX9_account ∈ TB := qg Xt0 13 rfl
theorem u_267 : Cond.instanceMethod yX9_account ∈ TB := qg Xt0 14 rfl
theorem u_268 : Cond.selects RX9 yX9_account yX9_account ∈ TB := qg Xt0 15 rfl
theorem u_396 : Cond.arrayClass .int ∈ TB := qg Xt0 16 rfl
theorem qL_9 : WS RL 9 yL_cell cL_cell 3 (some .int) 2 := ⟨u_334, u_332, u_333, u_28, by decide +kernel⟩
theorem qL_99 : WV RL 99 RX9 yX9_postOf cX9_postOf 3 (some .int) 2 := ⟨u_965, u_962, u_963, u_964, u_29, by decide +kernel⟩
theorem qL_96 : WV RL 96 RX9 yX9_account cX9_account 2 (some .int) 1 := ⟨u_269, u_266, u_267, u_268, u_29, by decide +kernel⟩
