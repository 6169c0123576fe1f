/-! by program: the constructors' walks -/
set_option maxRecDepth 100000 in
set_option maxHeartbeats 4000000 in
theorem c_X6_init {B : Nat} {σ : SS} (hz : Z 81 σ) : MN yX6_init cX6_init 1 1 12 B 81 82 1 9 [.ref (B + 80)] σ (fun τ => τ = u2 σ 80 0 1) := by
  refine MN.mk (plainFor_of_name (by decide)) rfl (Nat.le_of_ble_eq_true rfl) (fun X hC hIn hA hR => ?_)
  show J X 1 B 81 Tr 0 0 σ [(0, .ref (B + 80))] 0 []
  refine j_aload_n 0 hC 0 (dg DX6_init 0 rfl) rfl rfl ?_
  refine j_ini 1 hC v_422 v_346 v_347 (Nat.le_of_ble_eq_true rfl) (Nat.le_of_ble_eq_true rfl) (dg DX6_init 1 rfl) ?_
  refine j_aload_n 4 hC 0 (dg DX6_init 2 rfl) rfl rfl ?_
  refine j_bipush 5 hC (dg DX6_init 3 rfl) (v := 9) (by decide) ?_
  refine j_newI (N := 9) 7 hC v_396 k_81 (hz 81 (Nat.le_refl _)) (by decide) (by decide) (by decide) (Nat.le_of_ble_eq_true rfl) (Nat.le_of_ble_eq_true rfl) (dg DX6_init 4 rfl) ?_
  have z1 : Z 82 (σ) := hz.up (by decide)
  refine j_putF 9 hC hIn gX6_9 k_80 (by decide) (by decide) rfl gf6_0 rfl rfl (dg DX6_init 5 rfl) ?_
  have z2 : Z 82 (u2 σ 80 0 1) := z1.u (by decide)
  exact hR 12 _ _ (dg DX6_init 6 rfl) rfl
set_option maxRecDepth 100000 in
set_option maxHeartbeats 4000000 in
theorem c_X0_init {B : Nat} {σ : SS} (hz : Z 83 σ) : MN yX0_init cX0_init 1 1 12 B 83 85 2 536 [.ref (B + 82)] σ (fun τ => τ = u2 (u2 σ 82 0 1) 82 1 1) := by
  refine MN.mk (plainFor_of_name (by decide)) rfl (Nat.le_of_ble_eq_true rfl) (fun X hC hIn hA hR => ?_)
  show J X 1 B 83 Tr 0 0 σ [(0, .ref (B + 82))] 0 []
  refine j_aload_n 0 hC 0 (dg DX0_init 0 rfl) rfl rfl ?_
  refine j_ini 1 hC v_439 v_346 v_347 (Nat.le_of_ble_eq_true rfl) (Nat.le_of_ble_eq_true rfl) (dg DX0_init 1 rfl) ?_
  refine j_aload_n 4 hC 0 (dg DX0_init 2 rfl) rfl rfl ?_
  refine j_sipush 5 hC (dg DX0_init 3 rfl) (v := 512) (by decide) ?_
  refine j_newI (N := 512) 8 hC v_396 k_83 (hz 83 (Nat.le_refl _)) (by decide) (by decide) (by decide) (Nat.le_of_ble_eq_true rfl) (Nat.le_of_ble_eq_true rfl) (dg DX0_init 4 rfl) ?_
  have z1 : Z 84 (σ) := hz.up (by decide)
  refine j_putF 10 hC hIn gX0_9 k_82 (by decide) (by decide) rfl gf0_0 rfl rfl (dg DX0_init 5 rfl) ?_
  have z2 : Z 84 (u2 σ 82 0 1) := z1.u (by decide)
  refine j_aload_n 13 hC 0 (dg DX0_init 6 rfl) rfl rfl ?_
  refine j_bipush 14 hC (dg DX0_init 7 rfl) (v := 24) (by decide) ?_
  refine j_newI (N := 24) 16 hC v_396 k_84 (z2 84 (Nat.le_refl _)) (by decide) (by decide) (by decide) (Nat.le_of_ble_eq_true rfl) (Nat.le_of_ble_eq_true rfl) (dg DX0_init 8 rfl) ?_
  have z3 : Z 85 (u2 σ 82 0 1) := z2.up (by decide)
  refine j_putF 18 hC hIn gX0_15 k_82 (by decide) (by decide) rfl gf0_1 rfl rfl (dg DX0_init 9 rfl) ?_
  have z4 : Z 85 (u2 (u2 σ 82 0 1) 82 1 1) := z3.u (by decide)
  exact hR 21 _ _ (dg DX0_init 10 rfl) rfl
set_option maxRecDepth 100000 in
set_option maxHeartbeats 4000000 in
theorem c_X1_init {B : Nat} {σ : SS} (hz : Z 86 σ) : MN yX1_init cX1_init 1 1 12 B 86 88 2 24 [.ref (B + 85)] σ (fun τ => τ = u2 (u2 σ 85 0 1) 85 1 1) := by
  refine MN.mk (plainFor_of_name (by decide)) rfl (Nat.le_of_ble_eq_true rfl) (fun X hC hIn hA hR => ?_)
  show J X 1 B 86 Tr 0 0 σ [(0, .ref (B + 85))] 0 []
  refine j_aload_n 0 hC 0 (dg DX1_init 0 rfl) rfl rfl ?_
  refine j_ini 1 hC v_463 v_346 v_347 (Nat.le_of_ble_eq_true rfl) (Nat.le_of_ble_eq_true rfl) (dg DX1_init 1 rfl) ?_
  refine j_aload_n 4 hC 0 (dg DX1_init 2 rfl) rfl rfl ?_
  refine j_bipush 5 hC (dg DX1_init 3 rfl) (v := 12) (by decide) ?_
  refine j_newI (N := 12) 7 hC v_396 k_86 (hz 86 (Nat.le_refl _)) (by decide) (by decide) (by decide) (Nat.le_of_ble_eq_true rfl) (Nat.le_of_ble_eq_true rfl) (dg DX1_init 4 rfl) ?_
  have z1 : Z 87 (σ) := hz.up (by decide)
  refine j_putF 9 hC hIn gX1_9 k_85 (by decide) (by decide) rfl gf1_0 rfl rfl (dg DX1_init 5 rfl) ?_
  have z2 : Z 87 (u2 σ 85 0 1) := z1.u (by decide)
  refine j_aload_n 12 hC 0 (dg DX1_init 6 rfl) rfl rfl ?_
  refine j_bipush 13 hC (dg DX1_init 7 rfl) (v := 12) (by decide) ?_
  refine j_newI (N := 12) 15 hC v_396 k_87 (z2 87 (Nat.le_refl _)) (by decide) (by decide) (by decide) (Nat.le_of_ble_eq_true rfl) (Nat.le_of_ble_eq_true rfl) (dg DX1_init 8 rfl) ?_
  have z3 : Z 88 (u2 σ 85 0 1) := z2.up (by decide)
  refine j_putF 17 hC hIn gX1_15 k_85 (by decide) (by decide) rfl gf1_1 rfl rfl (dg DX1_init 9 rfl) ?_
  have z4 : Z 88 (u2 (u2 σ 85 0 1) 85 1 1) := z3.u (by decide)
  exact hR 20 _ _ (dg DX1_init 10 rfl) rfl
set_option maxRecDepth 100000 in
set_option maxHeartbeats 4000000 in
theorem c_X3_init {B : Nat} {σ : SS} (hz : Z 89 σ) : MN yX3_init cX3_init 1 1 12 B 89 90 1 9 [.ref (B + 88)] σ (fun τ => τ = u2 σ 88 0 1) := by
  refine MN.mk (plainFor_of_name (by decide)) rfl (Nat.le_of_ble_eq_true rfl) (fun X hC hIn hA hR => ?_)
  show J X 1 B 89 Tr 0 0 σ [(0, .ref (B + 88))] 0 []
  refine j_aload_n 0 hC 0 (dg DX3_init 0 rfl) rfl rfl ?_
  refine j_ini 1 hC v_479 v_346 v_347 (Nat.le_of_ble_eq_true rfl) (Nat.le_of_ble_eq_true rfl) (dg DX3_init 1 rfl) ?_
  refine j_aload_n 4 hC 0 (dg DX3_init 2 rfl) rfl rfl ?_
  refine j_bipush 5 hC (dg DX3_init 3 rfl) (v := 9) (by decide) ?_
  refine j_newI (N := 9) 7 hC v_396 k_89 (hz 89 (Nat.le_refl _)) (by decide) (by decide) (by decide) (Nat.le_of_ble_eq_true rfl) (Nat.le_of_ble_eq_true rfl) (dg DX3_init 4 rfl) ?_
  have z1 : Z 90 (σ) := hz.up (by decide)
  refine j_putF 9 hC hIn gX3_9 k_88 (by decide) (by decide) rfl gf3_0 rfl rfl (dg DX3_init 5 rfl) ?_
  have z2 : Z 90 (u2 σ 88 0 1) := z1.u (by decide)
  exact hR 12 _ _ (dg DX3_init 6 rfl) rfl
set_option maxRecDepth 100000 in
set_option maxHeartbeats 4000000 in
theorem c_X7_init {B : Nat} {σ : SS} (hz : Z 91 σ) : MN yX7_init cX7_init 1 1 12 B 91 92 1 70 [.ref (B + 90)] σ (fun τ => τ = u2 σ 90 0 1) := by
  refine MN.mk (plainFor_of_name (by decide)) rfl (Nat.le_of_ble_eq_true rfl) (fun X hC hIn hA hR => ?_)
  show J X 1 B 91 Tr 0 0 σ [(0, .ref (B + 90))] 0 []
  refine j_aload_n 0 hC 0 (dg DX7_init 0 rfl) rfl rfl ?_
  refine j_ini 1 hC v_489 v_346 v_347 (Nat.le_of_ble_eq_true rfl) (Nat.le_of_ble_eq_true rfl) (dg DX7_init 1 rfl) ?_
  refine j_aload_n 4 hC 0 (dg DX7_init 2 rfl) rfl rfl ?_
  refine j_bipush 5 hC (dg DX7_init 3 rfl) (v := 70) (by decide) ?_
  refine j_newI (N := 70) 7 hC v_396 k_91 (hz 91 (Nat.le_refl _)) (by decide) (by decide) (by decide) (Nat.le_of_ble_eq_true rfl) (Nat.le_of_ble_eq_true rfl) (dg DX7_init 4 rfl) ?_
  have z1 : Z 92 (σ) := hz.up (by decide)
  refine j_putF 9 hC hIn gX7_9 k_90 (by decide) (by decide) rfl gf7_0 rfl rfl (dg DX7_init 5 rfl) ?_
  have z2 : Z 92 (u2 σ 90 0 1) := z1.u (by decide)
  exact hR 12 _ _ (dg DX7_init 6 rfl) rfl
set_option maxRecDepth 100000 in
set_option maxHeartbeats 4000000 in
theorem c_X2_init {B : Nat} {σ : SS} (hz : Z 93 σ) : MN yX2_init cX2_init 1 1 12 B 93 94 1 24 [.ref (B + 92)] σ (fun τ => τ = u2 σ 92 0 1) := by
  refine MN.mk (plainFor_of_name (by decide)) rfl (Nat.le_of_ble_eq_true rfl) (fun X hC hIn hA hR => ?_)
  show J X 1 B 93 Tr 0 0 σ [(0, .ref (B + 92))] 0 []
  refine j_aload_n 0 hC 0 (dg DX2_init 0 rfl) rfl rfl ?_
  refine j_ini 1 hC v_522 v_346 v_347 (Nat.le_of_ble_eq_true rfl) (Nat.le_of_ble_eq_true rfl) (dg DX2_init 1 rfl) ?_
  refine j_aload_n 4 hC 0 (dg DX2_init 2 rfl) rfl rfl ?_
  refine j_bipush 5 hC (dg DX2_init 3 rfl) (v := 24) (by decide) ?_
  refine j_newI (N := 24) 7 hC v_396 k_93 (hz 93 (Nat.le_refl _)) (by decide) (by decide) (by decide) (Nat.le_of_ble_eq_true rfl) (Nat.le_of_ble_eq_true rfl) (dg DX2_init 4 rfl) ?_
  have z1 : Z 94 (σ) := hz.up (by decide)
  refine j_putF 9 hC hIn gX2_9 k_92 (by decide) (by decide) rfl gf2_0 rfl rfl (dg DX2_init 5 rfl) ?_
  have z2 : Z 94 (u2 σ 92 0 1) := z1.u (by decide)
  exact hR 12 _ _ (dg DX2_init 6 rfl) rfl
set_option maxRecDepth 100000 in
set_option maxHeartbeats 4000000 in
theorem c_X5_init {B : Nat} {σ : SS} (hz : Z 95 σ) : MN yX5_init cX5_init 1 1 12 B 95 95 0 0 [.ref (B + 94)] σ (fun τ => τ = σ) := by
  refine MN.mk (plainFor_of_name (by decide)) rfl (Nat.le_of_ble_eq_true rfl) (fun X hC hIn hA hR => ?_)
  show J X 1 B 95 Tr 0 0 σ [(0, .ref (B + 94))] 0 []
  refine j_aload_n 0 hC 0 (dg DX5_init 0 rfl) rfl rfl ?_
  refine j_ini 1 hC v_534 v_346 v_347 (Nat.le_of_ble_eq_true rfl) (Nat.le_of_ble_eq_true rfl) (dg DX5_init 1 rfl) ?_
  exact hR 4 _ _ (dg DX5_init 2 rfl) rfl
set_option maxRecDepth 100000 in
set_option maxHeartbeats 4000000 in
theorem t_X8_empty1 {X : XT} {B n : Nat} (hC : Cx X 2 cX8_empty RX8 (rmN 0 0)) {a : Nat} (ha : isW a) (hn : a + 6 < n) {Q : SS → Prop} (hR : RtV X 2 B n Tr cX8_empty Q) {σ : SS} (hs0 : ∀ j, j < 6 → σ a j = 1) {p1 : Int32} (hw : wp_X8_empty a σ p1 Q) : J X 2 B n Tr 0 0 σ [(0, .ref (B + a)), (1, .int p1)] 0 [] := by
  unfold wp_X8_empty at hw
  refine j_aload_n 0 hC 0 (dg DX8_empty 0 rfl) rfl rfl ?_
  refine j_getR1 (g := a + 1) 1 hC gX8_9 (kW ha) (by omega) (by decide) rfl (hs0 0 (by decide)) (dg DX8_empty 1 rfl) ?_
  refine j_iload_n 4 hC 1 (dg DX8_empty 2 rfl) rfl rfl ?_
  refine j_iconst 5 hC (dg DX8_empty 3 rfl) (v := (-1)) (by decide) ?_
  refine j_iast1 (a := a + 1) 6 _ hC (kW1 ha) (by omega) hw.1 rfl (dg DX8_empty 4 rfl) ?_
  replace hw := hw.2
  have hs1 : ∀ j, j < 6 → (u2 σ (a + 1) p1.toNatClampNeg (-1)) a j = 1 := fun j hj => by rw [u2k _ _ _ _ (by omega)]; exact hs0 j hj
  refine j_aload_n 7 hC 0 (dg DX8_empty 5 rfl) rfl rfl ?_
  refine j_getR1 (g := a + 2) 8 hC gX8_15 (kW ha) (by omega) (by decide) rfl (hs1 1 (by decide)) (dg DX8_empty 6 rfl) ?_
  refine j_iload_n 11 hC 1 (dg DX8_empty 7 rfl) rfl rfl ?_
  refine j_iconst 12 hC (dg DX8_empty 8 rfl) (v := 0) (by decide) ?_
  refine j_iast1 (a := a + 2) 13 _ hC (kW2 ha) (by omega) hw.1 rfl (dg DX8_empty 9 rfl) ?_
  replace hw := hw.2
  replace hw := hw _ rfl
  have hs2 : ∀ j, j < 6 → (u2 (u2 σ (a + 1) p1.toNatClampNeg (-1)) (a + 2) p1.toNatClampNeg 0) a j = 1 := fun j hj => by rw [u2k _ _ _ _ (by omega)]; exact hs1 j hj
  refine j_aload_n 14 hC 0 (dg DX8_empty 10 rfl) rfl rfl ?_
  refine j_getR1 (g := a + 3) 15 hC gX8_18 (kW ha) (by omega) (by decide) rfl (hs2 2 (by decide)) (dg DX8_empty 11 rfl) ?_
  refine j_iload_n 18 hC 1 (dg DX8_empty 12 rfl) rfl rfl ?_
  refine j_iconst 19 hC (dg DX8_empty 13 rfl) (v := 0) (by decide) ?_
  refine j_iast1 (a := a + 3) 20 _ hC (kW3 ha) (by omega) hw.1 rfl (dg DX8_empty 14 rfl) ?_
  replace hw := hw.2
  have hs3 : ∀ j, j < 6 → (u2 (u2 (u2 σ (a + 1) p1.toNatClampNeg (-1)) (a + 2) p1.toNatClampNeg 0) (a + 3) p1.toNatClampNeg 0) a j = 1 := fun j hj => by rw [u2k _ _ _ _ (by omega)]; exact hs2 j hj
  refine j_aload_n 21 hC 0 (dg DX8_empty 15 rfl) rfl rfl ?_
  refine j_getR1 (g := a + 4) 22 hC gX8_21 (kW ha) (by omega) (by decide) rfl (hs3 3 (by decide)) (dg DX8_empty 16 rfl) ?_
  refine j_iload_n 25 hC 1 (dg DX8_empty 17 rfl) rfl rfl ?_
  refine j_bipush 26 hC (dg DX8_empty 18 rfl) (v := (-4)) (by decide) ?_
  refine j_iast1 (a := a + 4) 28 _ hC (kW4 ha) (by omega) hw.1 rfl (dg DX8_empty 19 rfl) ?_
  replace hw := hw.2
  replace hw := hw _ rfl
  have hs4 : ∀ j, j < 6 → (u2 (u2 (u2 (u2 σ (a + 1) p1.toNatClampNeg (-1)) (a + 2) p1.toNatClampNeg 0) (a + 3) p1.toNatClampNeg 0) (a + 4) p1.toNatClampNeg (-4)) a j = 1 := fun j hj => by rw [u2k _ _ _ _ (by omega)]; exact hs3 j hj
  refine j_aload_n 29 hC 0 (dg DX8_empty 20 rfl) rfl rfl ?_
  refine j_getR1 (g := a + 5) 30 hC gX8_24 (kW ha) (by omega) (by decide) rfl (hs4 4 (by decide)) (dg DX8_empty 21 rfl) ?_
  refine j_iload_n 33 hC 1 (dg DX8_empty 22 rfl) rfl rfl ?_
  refine j_iconst 34 hC (dg DX8_empty 23 rfl) (v := 0) (by decide) ?_
  refine j_iast1 (a := a + 5) 35 _ hC (kW5 ha) (by omega) hw.1 rfl (dg DX8_empty 24 rfl) ?_
  replace hw := hw.2
  have hs5 : ∀ j, j < 6 → (u2 (u2 (u2 (u2 (u2 σ (a + 1) p1.toNatClampNeg (-1)) (a + 2) p1.toNatClampNeg 0) (a + 3) p1.toNatClampNeg 0) (a + 4) p1.toNatClampNeg (-4)) (a + 5) p1.toNatClampNeg 0) a j = 1 := fun j hj => by rw [u2k _ _ _ _ (by omega)]; exact hs4 j hj
  refine j_aload_n 36 hC 0 (dg DX8_empty 25 rfl) rfl rfl ?_
  refine j_getR1 (g := a + 6) 37 hC gX8_27 (kW ha) (by omega) (by decide) rfl (hs5 5 (by decide)) (dg DX8_empty 26 rfl) ?_
  refine j_iload_n 40 hC 1 (dg DX8_empty 27 rfl) rfl rfl ?_
  refine j_iconst 41 hC (dg DX8_empty 28 rfl) (v := 0) (by decide) ?_
  refine j_iast1 (a := a + 6) 42 _ hC (kW6 ha) (by omega) hw.1 rfl (dg DX8_empty 29 rfl) ?_
  replace hw := hw.2
  replace hw := hw _ rfl
  have hs6 : ∀ j, j < 6 → (u2 (u2 (u2 (u2 (u2 (u2 σ (a + 1) p1.toNatClampNeg (-1)) (a + 2) p1.toNatClampNeg 0) (a + 3) p1.toNatClampNeg 0) (a + 4) p1.toNatClampNeg (-4)) (a + 5) p1.toNatClampNeg 0) (a + 6) p1.toNatClampNeg 0) a j = 1 := fun j hj => by rw [u2k _ _ _ _ (by omega)]; exact hs5 j hj
  exact hR 43 _ _ (dg DX8_empty 30 rfl) hw
theorem m_X8_empty1 {B n : Nat} {a : Nat} (ha : isW a) (hn : a + 6 < n) {σ : SS} (hs0 : ∀ j, j < 6 → σ a j = 1) {p1 : Int32} {Q : SS → Prop} (hw : wp_X8_empty a σ p1 Q) : MV yX8_empty cX8_empty 2 0 0 B n Tr [.ref (B + a), .int p1] σ Q := MV.mk (plainFor_of_name (by decide)) (Nat.le_of_ble_eq_true rfl) (fun X hC hR => t_X8_empty1 hC ha hn hR hs0 hw)
/-- a wall as Wall() leaves it -/
def wallS (a : Nat) (σ : SS) : SS := fun k j => if k = a ∧ j < 6 then 1 else if k = a + 1 ∧ j < 9 then -1 else if k = a + 4 ∧ j < 9 then -4 else σ k j
theorem Z.wall {a n : Nat} {σ : SS} (h : Z (a + 1) σ) (hn : a + 6 < n) : Z n (wallS a σ) := fun k hk => by
  funext j
  unfold wallS
  rw [if_neg (by omega), if_neg (by omega), if_neg (by omega), h k (by omega)]
def wallE (a i : Nat) (σ : SS) : SS := fun k j => if k = a ∧ j < 6 then 1 else if k = a + 1 ∧ j < i then -1 else if k = a + 4 ∧ j < i then -4 else σ k j
set_option maxRecDepth 100000 in
set_option maxHeartbeats 4000000 in
theorem tl_X8_init {X : XT} {B : Nat} {a : Nat} (ha : isW a) {σ : SS} (hz : Z (a + 1) σ) (hC : Cx X 2 cX8_init RX8 (rmC 1 6 54 21)) (hR : RtN X 2 B (a + 7) 6 54 cX8_init (fun τ => τ = wallS a σ)) : ∀ d i, i + d = 9 → J X 2 B (a + 7) Tr 6 54 (wallE a i σ) [(0, .ref (B + a)), (1, .int (nI i))] 54 [] := by
  intro d
  induction d with
  | zero =>
    intro i hi
    have hi : i = 9 := by omega
    subst hi
    refine j_iload_n 54 hC 1 (dg DX8_init 28 rfl) rfl rfl ?_
    refine j_bipush 55 hC (dg DX8_init 29 rfl) (v := 9) (by decide) ?_
    refine j_icmp_ge 57 71 hC (dg DX8_init 30 rfl) (by decide) (fun _ => ?_) (fun hbr => absurd hbr (by decide))
    exact hR 71 _ _ (dg DX8_init 36 rfl) rfl
  | succ d ih =>
    intro i hi
    refine j_iload_n 54 hC 1 (dg DX8_init 28 rfl) rfl rfl ?_
    refine j_bipush 55 hC (dg DX8_init 29 rfl) (v := 9) (by decide) ?_
    refine j_icmp_ge 57 71 hC (dg DX8_init 30 rfl) (by decide) (fun hbr => absurd hbr (c_nle 9 (by omega))) (fun _ => ?_)
    refine j_aload_n 60 hC 0 (dg DX8_init 31 rfl) rfl rfl ?_
    refine j_iload_n 61 hC 1 (dg DX8_init 32 rfl) rfl rfl ?_
    refine j_Vv (As := [.int (nI i)]) (Q' := fun τ => τ = wallE a (i + 1) σ) 62 hC (m_X8_empty1 (n := a + 7) ha (by omega) (fun j hj => by unfold wallE; rw [if_pos ⟨rfl, hj⟩]) (sp_empty (by omega) fun τ t => ?_)) kkX8_30 (kW ha) (by omega) ⟨_, _, rfl⟩ ⟨⟨(Nat.le_of_ble_eq_true rfl), (Nat.le_of_ble_eq_true rfl)⟩, (Nat.le_of_ble_eq_true rfl), (Nat.le_of_ble_eq_true rfl)⟩ rfl rfl (Nat.le_of_ble_eq_true rfl) (dg DX8_init 33 rfl) (fun τ e => ?_)
    · funext k j
      rw [t]
      unfold wallE
      repeat' split
      all_goals first | rfl | omega | (rw [hz k (by omega)])
    · subst e
      refine j_iinc 65 hC 1 (nI (i + 1)) [(1, .int (nI (i + 1))), (0, .ref (B + a))] (dg DX8_init 34 rfl) rfl (nI_1 i) (by decide) rfl ?_
      refine j_goto 68 54 hC (dg DX8_init 35 rfl) (by decide) ?_
      refine j_lv [1, 0] (lv' := [(0, .ref (B + a)), (1, .int (nI (i + 1)))]) rfl ?_
      exact ih (i + 1) (by omega)
set_option maxRecDepth 100000 in
set_option maxHeartbeats 4000000 in
theorem c_X8_init {B : Nat} {a : Nat} (ha : isW a) {σ : SS} (hz : Z (a + 1) σ) : MN yX8_init cX8_init 2 1 21 B (a + 1) (a + 7) 6 54 [.ref (B + a)] σ (fun τ => τ = wallS a σ) := by
  refine MN.mk (plainFor_of_name (by decide)) rfl (Nat.le_of_ble_eq_true rfl) (fun X hC hIn hA hR => ?_)
  show J X 2 B (a + 1) Tr 0 0 σ [(0, .ref (B + a))] 0 []
  refine j_aload_n 0 hC 0 (dg DX8_init 0 rfl) rfl rfl ?_
  refine j_ini 1 hC v_352 v_346 v_347 (Nat.le_of_ble_eq_true rfl) (Nat.le_of_ble_eq_true rfl) (dg DX8_init 1 rfl) ?_
  refine j_aload_n 4 hC 0 (dg DX8_init 2 rfl) rfl rfl ?_
  refine j_bipush 5 hC (dg DX8_init 3 rfl) (v := 9) (by decide) ?_
  refine j_newI (n := a + 1) (N := 9) 7 hC v_396 (kW1 ha) (hz (a + 1) (Nat.le_refl _)) (by decide) (by decide) (by decide) (Nat.le_of_ble_eq_true rfl) (Nat.le_of_ble_eq_true rfl) (dg DX8_init 4 rfl) ?_
  have z1 : Z (a + 2) (σ) := hz.up (by omega)
  refine j_putF (g := a + 1) 9 hC hIn gX8_9 (kW ha) (by omega) (by decide) rfl gf8_0 rfl rfl (dg DX8_init 5 rfl) ?_
  have z2 : Z (a + 2) (u2 σ a 0 1) := z1.u (by omega)
  refine j_aload_n 12 hC 0 (dg DX8_init 6 rfl) rfl rfl ?_
  refine j_bipush 13 hC (dg DX8_init 7 rfl) (v := 9) (by decide) ?_
  refine j_newI (n := a + 2) (N := 9) 15 hC v_396 (kW2 ha) (z2 (a + 2) (Nat.le_refl _)) (by decide) (by decide) (by decide) (Nat.le_of_ble_eq_true rfl) (Nat.le_of_ble_eq_true rfl) (dg DX8_init 8 rfl) ?_
  have z3 : Z (a + 3) (u2 σ a 0 1) := z2.up (by omega)
  refine j_putF (g := a + 2) 17 hC hIn gX8_15 (kW ha) (by omega) (by decide) rfl gf8_1 rfl rfl (dg DX8_init 9 rfl) ?_
  have z4 : Z (a + 3) (u2 (u2 σ a 0 1) a 1 1) := z3.u (by omega)
  refine j_aload_n 20 hC 0 (dg DX8_init 10 rfl) rfl rfl ?_
  refine j_bipush 21 hC (dg DX8_init 11 rfl) (v := 9) (by decide) ?_
  refine j_newI (n := a + 3) (N := 9) 23 hC v_396 (kW3 ha) (z4 (a + 3) (Nat.le_refl _)) (by decide) (by decide) (by decide) (Nat.le_of_ble_eq_true rfl) (Nat.le_of_ble_eq_true rfl) (dg DX8_init 12 rfl) ?_
  have z5 : Z (a + 4) (u2 (u2 σ a 0 1) a 1 1) := z4.up (by omega)
  refine j_putF (g := a + 3) 25 hC hIn gX8_18 (kW ha) (by omega) (by decide) rfl gf8_2 rfl rfl (dg DX8_init 13 rfl) ?_
  have z6 : Z (a + 4) (u2 (u2 (u2 σ a 0 1) a 1 1) a 2 1) := z5.u (by omega)
  refine j_aload_n 28 hC 0 (dg DX8_init 14 rfl) rfl rfl ?_
  refine j_bipush 29 hC (dg DX8_init 15 rfl) (v := 9) (by decide) ?_
  refine j_newI (n := a + 4) (N := 9) 31 hC v_396 (kW4 ha) (z6 (a + 4) (Nat.le_refl _)) (by decide) (by decide) (by decide) (Nat.le_of_ble_eq_true rfl) (Nat.le_of_ble_eq_true rfl) (dg DX8_init 16 rfl) ?_
  have z7 : Z (a + 5) (u2 (u2 (u2 σ a 0 1) a 1 1) a 2 1) := z6.up (by omega)
  refine j_putF (g := a + 4) 33 hC hIn gX8_21 (kW ha) (by omega) (by decide) rfl gf8_3 rfl rfl (dg DX8_init 17 rfl) ?_
  have z8 : Z (a + 5) (u2 (u2 (u2 (u2 σ a 0 1) a 1 1) a 2 1) a 3 1) := z7.u (by omega)
  refine j_aload_n 36 hC 0 (dg DX8_init 18 rfl) rfl rfl ?_
  refine j_bipush 37 hC (dg DX8_init 19 rfl) (v := 9) (by decide) ?_
  refine j_newI (n := a + 5) (N := 9) 39 hC v_396 (kW5 ha) (z8 (a + 5) (Nat.le_refl _)) (by decide) (by decide) (by decide) (Nat.le_of_ble_eq_true rfl) (Nat.le_of_ble_eq_true rfl) (dg DX8_init 20 rfl) ?_
  have z9 : Z (a + 6) (u2 (u2 (u2 (u2 σ a 0 1) a 1 1) a 2 1) a 3 1) := z8.up (by omega)
  refine j_putF (g := a + 5) 41 hC hIn gX8_24 (kW ha) (by omega) (by decide) rfl gf8_4 rfl rfl (dg DX8_init 21 rfl) ?_
  have z10 : Z (a + 6) (u2 (u2 (u2 (u2 (u2 σ a 0 1) a 1 1) a 2 1) a 3 1) a 4 1) := z9.u (by omega)
  refine j_aload_n 44 hC 0 (dg DX8_init 22 rfl) rfl rfl ?_
  refine j_bipush 45 hC (dg DX8_init 23 rfl) (v := 9) (by decide) ?_
  refine j_newI (n := a + 6) (N := 9) 47 hC v_396 (kW6 ha) (z10 (a + 6) (Nat.le_refl _)) (by decide) (by decide) (by decide) (Nat.le_of_ble_eq_true rfl) (Nat.le_of_ble_eq_true rfl) (dg DX8_init 24 rfl) ?_
  have z11 : Z (a + 7) (u2 (u2 (u2 (u2 (u2 σ a 0 1) a 1 1) a 2 1) a 3 1) a 4 1) := z10.up (by omega)
  refine j_putF (g := a + 6) 49 hC hIn gX8_27 (kW ha) (by omega) (by decide) rfl gf8_5 rfl rfl (dg DX8_init 25 rfl) ?_
  have z12 : Z (a + 7) (u2 (u2 (u2 (u2 (u2 (u2 σ a 0 1) a 1 1) a 2 1) a 3 1) a 4 1) a 5 1) := z11.u (by omega)
  refine j_iconst 52 hC (dg DX8_init 26 rfl) (v := 0) (by decide) ?_
  refine j_istore_n 53 hC [(1, .int 0), (0, .ref (B + a))] (dg DX8_init 27 rfl) rfl (by decide) rfl ?_
  refine j_lv [1, 0] (lv' := [(0, .ref (B + a)), (1, .int (nI 0))]) rfl ?_
  have e : u2 (u2 (u2 (u2 (u2 (u2 σ a 0 1) a 1 1) a 2 1) a 3 1) a 4 1) a 5 1 = wallE a 0 σ := by
    funext k j
    unfold wallE
    simp only [u2i]
    by_cases c : k = a ∧ j < 6
    · rw [if_pos c]
      rcases (show j = 0 ∨ j = 1 ∨ j = 2 ∨ j = 3 ∨ j = 4 ∨ j = 5 by omega) with rfl | rfl | rfl | rfl | rfl | rfl <;> simp [c.1]
    · rw [if_neg c, if_neg (by omega), if_neg (by omega), if_neg (by omega), if_neg (by omega), if_neg (by omega), if_neg (by omega), if_neg (by omega), if_neg (by omega)]
  rw [e]
  exact tl_X8_init ha hz hC hR 9 0 rfl
/-- the past after i walls -/
def pastS (σ : SS) : Nat → SS
  | 0 => u2 σ 22 0 1
  | i + 1 => u2 (wallS (24 + 7 * i) (pastS σ i)) 23 i 1
theorem Z.past {σ : SS} (h : Z 24 σ) : ∀ i, i ≤ 8 → Z (24 + 7 * i) (pastS σ i)
  | 0, _ => h.u (by decide)
  | i + 1, hi => (((h.past i (by omega)).up (by omega)).wall (by omega)).u (by omega)
theorem pastS_22 {σ : SS} : ∀ i, pastS σ i 22 0 = 1
  | 0 => u2s _ _ _ _
  | i + 1 => by
    show u2 (wallS (24 + 7 * i) (pastS σ i)) 23 i 1 22 0 = 1
    rw [u2k _ _ _ _ (by decide)]
    unfold wallS
    rw [if_neg (by omega), if_neg (by omega), if_neg (by omega)]
    exact pastS_22 i
set_option maxRecDepth 100000 in
set_option maxHeartbeats 4000000 in
theorem tl_X4_init {X : XT} {B : Nat} {σ : SS} (hz : Z 24 σ) (hC : Cx X 2 cX4_init RX4 (rmC 2 57 528 42)) (hA : AOX X) (hR : RtN X 2 B 80 57 528 cX4_init (fun τ => τ = pastS σ 8)) : ∀ d i, i + d = 8 → J X 2 B (24 + 7 * i) Tr (1 + 7 * i) (8 + 65 * i) (pastS σ i) [(0, .ref (B + 22)), (1, .int (nI i))] 15 [] := by
  intro d
  induction d with
  | zero =>
    intro i hi
    have hi : i = 8 := by omega
    subst hi
    refine j_iload_n 15 hC 1 (dg DX4_init 8 rfl) rfl rfl ?_
    refine j_bipush 16 hC (dg DX4_init 9 rfl) (v := 8) (by decide) ?_
    refine j_icmp_ge 18 40 hC (dg DX4_init 10 rfl) (by decide) (fun _ => ?_) (fun hbr => absurd hbr (by decide))
    exact hR 40 _ _ (dg DX4_init 20 rfl) rfl
  | succ d ih =>
    intro i hi
    have hw : isW (24 + 7 * i) := by unfold isW; omega
    refine j_iload_n 15 hC 1 (dg DX4_init 8 rfl) rfl rfl ?_
    refine j_bipush 16 hC (dg DX4_init 9 rfl) (v := 8) (by decide) ?_
    refine j_icmp_ge 18 40 hC (dg DX4_init 10 rfl) (by decide) (fun hbr => absurd hbr (c_nle 8 (by omega))) (fun _ => ?_)
    refine j_aload_n 21 hC 0 (dg DX4_init 11 rfl) rfl rfl ?_
    refine j_getR1 (g := 23) 22 hC gX4_11 k_22 (by omega) (by decide) rfl (pastS_22 i) (dg DX4_init 12 rfl) ?_
    refine j_iload_n 25 hC 1 (dg DX4_init 13 rfl) rfl rfl ?_
    refine j_newO (t := 8) (n := 24 + 7 * i) 26 hC rfl inX8 tyX8_ok v_403 v_62 v_30 (kW hw) ((hz.past i (by omega)) (24 + 7 * i) (Nat.le_refl _)) df8 (by show 1 + 7 * i + 1 ≤ 57; omega) (by show 8 + 65 * i + 11 ≤ 528; omega) (dg DX4_init 14 rfl) ?_
    refine j_dup 29 hC (dg DX4_init 15 rfl) rfl ?_
    refine j_I0 30 hC hA (c_X8_init hw ((hz.past i (by omega)).up (by omega))) hX4_17 ⟨(Nat.le_of_ble_eq_true rfl), (Nat.le_of_ble_eq_true rfl)⟩ ⟨by show 1 + 7 * i + 1 + 6 ≤ 57; omega, by show 8 + 65 * i + 11 + 54 ≤ 528; omega⟩ (Nat.le_of_ble_eq_true rfl) (dg DX4_init 16 rfl) (fun τ e => ?_)
    subst e
    refine j_aastW (i := i) 33 hC (by omega) (by omega) (by omega) (dg DX4_init 17 rfl) ?_
    refine j_iinc 34 hC 1 (nI (i + 1)) [(1, .int (nI (i + 1))), (0, .ref (B + 22))] (dg DX4_init 18 rfl) rfl (nI_1 i) (by decide) rfl ?_
    refine j_goto 37 15 hC (dg DX4_init 19 rfl) (by decide) ?_
    refine j_lv [1, 0] (lv' := [(0, .ref (B + 22)), (1, .int (nI (i + 1)))]) rfl ?_
    have h := ih (i + 1) (by omega)
    rw [show 24 + 7 * (i + 1) = 24 + 7 * i + 7 by omega, show 1 + 7 * (i + 1) = 1 + 7 * i + 1 + 6 by omega, show 8 + 65 * (i + 1) = 8 + 65 * i + 11 + 54 by omega] at h
    exact h
set_option maxRecDepth 100000 in
set_option maxHeartbeats 4000000 in
theorem c_X4_init {B : Nat} {σ : SS} (hz : Z 23 σ) : MN yX4_init cX4_init 2 2 42 B 23 80 57 528 [.ref (B + 22)] σ (fun τ => τ = pastS σ 8) := by
  refine MN.mk (plainFor_of_name (by decide)) rfl (Nat.le_of_ble_eq_true rfl) (fun X hC hIn hA hR => ?_)
  show J X 2 B 23 Tr 0 0 σ [(0, .ref (B + 22))] 0 []
  refine j_aload_n 0 hC 0 (dg DX4_init 0 rfl) rfl rfl ?_
  refine j_ini 1 hC v_402 v_346 v_347 (Nat.le_of_ble_eq_true rfl) (Nat.le_of_ble_eq_true rfl) (dg DX4_init 1 rfl) ?_
  refine j_aload_n 4 hC 0 (dg DX4_init 2 rfl) rfl rfl ?_
  refine j_bipush 5 hC (dg DX4_init 3 rfl) (v := 8) (by decide) ?_
  refine j_newW (N := 8) 7 hC hA v_403 rfl (hz 23 (Nat.le_refl _)) (by decide) (by decide) (by decide) (Nat.le_of_ble_eq_true rfl) (Nat.le_of_ble_eq_true rfl) (dg DX4_init 4 rfl) ?_
  refine j_putF (g := 23) 10 hC hIn gX4_11 k_22 (by decide) (by decide) rfl gf4_0 rfl rfl (dg DX4_init 5 rfl) ?_
  refine j_iconst 13 hC (dg DX4_init 6 rfl) (v := 0) (by decide) ?_
  refine j_istore_n 14 hC [(1, .int 0), (0, .ref (B + 22))] (dg DX4_init 7 rfl) rfl (by decide) rfl ?_
  refine j_lv [1, 0] (lv' := [(0, .ref (B + 22)), (1, .int (nI 0))]) rfl ?_
  exact tl_X4_init (hz.up (by decide)) hC hA hR 8 0 rfl
def sx0 (σ : SS) : SS := u2 (wallS 1 (σ)) 0 0 1
def sx1 (σ : SS) : SS := u2 (wallS 8 (sx0 σ)) 0 1 1
def sx2 (σ : SS) : SS := u2 (wallS 15 (sx1 σ)) 0 2 1
def sx3 (σ : SS) : SS := u2 (pastS (sx2 σ) 8) 0 3 1
def sx4 (σ : SS) : SS := u2 (u2 (sx3 σ) 80 0 1) 0 4 1
def sx5 (σ : SS) : SS := u2 (u2 (u2 (sx4 σ) 82 0 1) 82 1 1) 0 5 1
def sx6 (σ : SS) : SS := u2 (u2 (u2 (sx5 σ) 85 0 1) 85 1 1) 0 6 1
def sx7 (σ : SS) : SS := u2 (u2 (sx6 σ) 88 0 1) 0 7 1
def sx8 (σ : SS) : SS := u2 (u2 (sx7 σ) 90 0 1) 0 8 1
def sx9 (σ : SS) : SS := u2 (u2 (sx8 σ) 92 0 1) 0 9 1
def sx10 (σ : SS) : SS := u2 ((sx9 σ)) 0 10 1
def sx11 (σ : SS) : SS := u2 (sx10 σ) 0 11 0
def sx12 (σ : SS) : SS := u2 (sx11 σ) 0 12 (-4)
theorem z_last {σ : SS} (hz : Z 1 σ) : Z 95 (sx12 σ) := by
  have z1 : Z 2 (σ) := hz.up (by decide)
  have z2 : Z 8 (wallS 1 (σ)) := z1.wall (by decide)
  have z3 : Z 8 (sx0 σ) := z2.u (by decide)
  have z4 : Z 9 (sx0 σ) := z3.up (by decide)
  have z5 : Z 15 (wallS 8 (sx0 σ)) := z4.wall (by decide)
  have z6 : Z 15 (sx1 σ) := z5.u (by decide)
  have z7 : Z 16 (sx1 σ) := z6.up (by decide)
  have z8 : Z 22 (wallS 15 (sx1 σ)) := z7.wall (by decide)
  have z9 : Z 22 (sx2 σ) := z8.u (by decide)
  have z10 : Z 23 (sx2 σ) := z9.up (by decide)
  have z11 : Z 80 (pastS (sx2 σ) 8) := (z10.up (by decide)).past 8 (Nat.le_refl _)
  have z12 : Z 80 (sx3 σ) := z11.u (by decide)
  have z13 : Z 81 (sx3 σ) := z12.up (by decide)
  have z14 : Z 82 (u2 (sx3 σ) 80 0 1) := (z13.up (by decide)).u (by decide)
  have z15 : Z 82 (sx4 σ) := z14.u (by decide)
  have z16 : Z 83 (sx4 σ) := z15.up (by decide)
  have z17 : Z 85 (u2 (u2 (sx4 σ) 82 0 1) 82 1 1) := ((z16.up (by decide)).u (by decide)).u (by decide)
  have z18 : Z 85 (sx5 σ) := z17.u (by decide)
  have z19 : Z 86 (sx5 σ) := z18.up (by decide)
  have z20 : Z 88 (u2 (u2 (sx5 σ) 85 0 1) 85 1 1) := ((z19.up (by decide)).u (by decide)).u (by decide)
  have z21 : Z 88 (sx6 σ) := z20.u (by decide)
  have z22 : Z 89 (sx6 σ) := z21.up (by decide)
  have z23 : Z 90 (u2 (sx6 σ) 88 0 1) := (z22.up (by decide)).u (by decide)
  have z24 : Z 90 (sx7 σ) := z23.u (by decide)
  have z25 : Z 91 (sx7 σ) := z24.up (by decide)
  have z26 : Z 92 (u2 (sx7 σ) 90 0 1) := (z25.up (by decide)).u (by decide)
  have z27 : Z 92 (sx8 σ) := z26.u (by decide)
  have z28 : Z 93 (sx8 σ) := z27.up (by decide)
  have z29 : Z 94 (u2 (sx8 σ) 92 0 1) := (z28.up (by decide)).u (by decide)
  have z30 : Z 94 (sx9 σ) := z29.u (by decide)
  have z31 : Z 95 (sx9 σ) := z30.up (by decide)
  have z32 : Z 95 ((sx9 σ)) := z31.up (by decide)
  have z33 : Z 95 (sx10 σ) := z32.u (by decide)
  have z34 : Z 95 (sx11 σ) := z33.u (by decide)
  have z35 : Z 95 (sx12 σ) := z34.u (by decide)
  exact z35
set_option maxRecDepth 100000 in
set_option maxHeartbeats 4000000 in
theorem c_X9_init {B : Nat} {σ : SS} (hz : Z 1 σ) : MN yX9_init cX9_init 1 3 63 B 1 95 94 1422 [.ref (B + 0)] σ (fun τ => τ = sx12 σ) := by
  refine MN.mk (plainFor_of_name (by decide)) rfl (Nat.le_of_ble_eq_true rfl) (fun X hC hIn hA hR => ?_)
  show J X 1 B 1 Tr 0 0 σ [(0, .ref (B + 0))] 0 []
  refine j_aload_n 0 hC 0 (dg DX9_init 0 rfl) rfl rfl ?_
  refine j_ini 1 hC v_345 v_346 v_347 (Nat.le_of_ble_eq_true rfl) (Nat.le_of_ble_eq_true rfl) (dg DX9_init 1 rfl) ?_
  refine j_aload_n 4 hC 0 (dg DX9_init 2 rfl) rfl rfl ?_
  refine j_newO (t := 8) (n := 1) 5 hC rfl inX8 tyX8_ok v_348 v_62 v_30 (kW isW_1) (hz (1) (Nat.le_refl _)) df8 (Nat.le_of_ble_eq_true rfl) (Nat.le_of_ble_eq_true rfl) (dg DX9_init 3 rfl) ?_
  have z1 : Z 2 (σ) := hz.up (by decide)
  refine j_dup 8 hC (dg DX9_init 4 rfl) rfl ?_
  refine j_I0 9 hC hA (c_X8_init (a := 1) isW_1 z1) hX9_9 ⟨(Nat.le_of_ble_eq_true rfl), (Nat.le_of_ble_eq_true rfl)⟩ ⟨(Nat.le_of_ble_eq_true rfl), (Nat.le_of_ble_eq_true rfl)⟩ (Nat.le_of_ble_eq_true rfl) (dg DX9_init 5 rfl) (fun τ e => ?_)
  subst e
  have z2 : Z 8 (wallS 1 (σ)) := z1.wall (by decide)
  refine j_putF (g := 1) 12 hC hIn gX9_10 k_0 (by decide) (by decide) rfl gf9_0 rfl rfl (dg DX9_init 6 rfl) ?_
  have z3 : Z 8 (sx0 σ) := z2.u (by decide)
  refine (show J X 1 B 8 Tr 7 65 (sx0 σ) [(0, .ref (B + 0))] 15 [] from ?_)
  refine j_aload_n 15 hC 0 (dg DX9_init 7 rfl) rfl rfl ?_
  refine j_newO (t := 8) (n := 8) 16 hC rfl inX8 tyX8_ok v_348 v_62 v_30 (kW isW_8) (z3 (8) (Nat.le_refl _)) df8 (Nat.le_of_ble_eq_true rfl) (Nat.le_of_ble_eq_true rfl) (dg DX9_init 8 rfl) ?_
  have z4 : Z 9 (sx0 σ) := z3.up (by decide)
  refine j_dup 19 hC (dg DX9_init 9 rfl) rfl ?_
  refine j_I0 20 hC hA (c_X8_init (a := 8) isW_8 z4) hX9_9 ⟨(Nat.le_of_ble_eq_true rfl), (Nat.le_of_ble_eq_true rfl)⟩ ⟨(Nat.le_of_ble_eq_true rfl), (Nat.le_of_ble_eq_true rfl)⟩ (Nat.le_of_ble_eq_true rfl) (dg DX9_init 10 rfl) (fun τ e => ?_)
  subst e
  have z5 : Z 15 (wallS 8 (sx0 σ)) := z4.wall (by decide)
  refine j_putF (g := 8) 23 hC hIn gX9_16 k_0 (by decide) (by decide) rfl gf9_1 rfl rfl (dg DX9_init 11 rfl) ?_
  have z6 : Z 15 (sx1 σ) := z5.u (by decide)
  refine (show J X 1 B 15 Tr 14 130 (sx1 σ) [(0, .ref (B + 0))] 26 [] from ?_)
  refine j_aload_n 26 hC 0 (dg DX9_init 12 rfl) rfl rfl ?_
  refine j_newO (t := 8) (n := 15) 27 hC rfl inX8 tyX8_ok v_348 v_62 v_30 (kW isW_15) (z6 (15) (Nat.le_refl _)) df8 (Nat.le_of_ble_eq_true rfl) (Nat.le_of_ble_eq_true rfl) (dg DX9_init 13 rfl) ?_
  have z7 : Z 16 (sx1 σ) := z6.up (by decide)
  refine j_dup 30 hC (dg DX9_init 14 rfl) rfl ?_
  refine j_I0 31 hC hA (c_X8_init (a := 15) isW_15 z7) hX9_9 ⟨(Nat.le_of_ble_eq_true rfl), (Nat.le_of_ble_eq_true rfl)⟩ ⟨(Nat.le_of_ble_eq_true rfl), (Nat.le_of_ble_eq_true rfl)⟩ (Nat.le_of_ble_eq_true rfl) (dg DX9_init 15 rfl) (fun τ e => ?_)
  subst e
  have z8 : Z 22 (wallS 15 (sx1 σ)) := z7.wall (by decide)
  refine j_putF (g := 15) 34 hC hIn gX9_19 k_0 (by decide) (by decide) rfl gf9_2 rfl rfl (dg DX9_init 16 rfl) ?_
  have z9 : Z 22 (sx2 σ) := z8.u (by decide)
  refine (show J X 1 B 22 Tr 21 195 (sx2 σ) [(0, .ref (B + 0))] 37 [] from ?_)
  refine j_aload_n 37 hC 0 (dg DX9_init 17 rfl) rfl rfl ?_
  refine j_newO (t := 4) (n := 22) 38 hC rfl inX4 tyX4_ok v_397 v_398 v_31 k_22 (z9 (22) (Nat.le_refl _)) df4 (Nat.le_of_ble_eq_true rfl) (Nat.le_of_ble_eq_true rfl) (dg DX9_init 18 rfl) ?_
  have z10 : Z 23 (sx2 σ) := z9.up (by decide)
  refine j_dup 41 hC (dg DX9_init 19 rfl) rfl ?_
  refine j_I0 42 hC hA (c_X4_init z10) hX9_24 ⟨(Nat.le_of_ble_eq_true rfl), (Nat.le_of_ble_eq_true rfl)⟩ ⟨(Nat.le_of_ble_eq_true rfl), (Nat.le_of_ble_eq_true rfl)⟩ (Nat.le_of_ble_eq_true rfl) (dg DX9_init 20 rfl) (fun τ e => ?_)
  subst e
  have z11 : Z 80 (pastS (sx2 σ) 8) := (z10.up (by decide)).past 8 (Nat.le_refl _)
  refine j_putF (g := 22) 45 hC hIn gX9_25 k_0 (by decide) (by decide) rfl gf9_3 rfl rfl (dg DX9_init 21 rfl) ?_
  have z12 : Z 80 (sx3 σ) := z11.u (by decide)
  refine (show J X 1 B 80 Tr 79 726 (sx3 σ) [(0, .ref (B + 0))] 48 [] from ?_)
  refine j_aload_n 48 hC 0 (dg DX9_init 22 rfl) rfl rfl ?_
  refine j_newO (t := 6) (n := 80) 49 hC rfl inX6 tyX6_ok v_417 v_418 v_32 k_80 (z12 (80) (Nat.le_refl _)) df6 (Nat.le_of_ble_eq_true rfl) (Nat.le_of_ble_eq_true rfl) (dg DX9_init 23 rfl) ?_
  have z13 : Z 81 (sx3 σ) := z12.up (by decide)
  refine j_dup 52 hC (dg DX9_init 24 rfl) rfl ?_
  refine j_IN0 53 hC hA (c_X6_init z13) hX9_31 ⟨(Nat.le_of_ble_eq_true rfl), (Nat.le_of_ble_eq_true rfl)⟩ ⟨(Nat.le_of_ble_eq_true rfl), (Nat.le_of_ble_eq_true rfl)⟩ (Nat.le_of_ble_eq_true rfl) (dg DX9_init 25 rfl) (fun τ e => ?_)
  subst e
  have z14 : Z 82 (u2 (sx3 σ) 80 0 1) := (z13.up (by decide)).u (by decide)
  refine j_putF (g := 80) 56 hC hIn gX9_32 k_0 (by decide) (by decide) rfl gf9_4 rfl rfl (dg DX9_init 26 rfl) ?_
  have z15 : Z 82 (sx4 σ) := z14.u (by decide)
  refine (show J X 1 B 82 Tr 81 738 (sx4 σ) [(0, .ref (B + 0))] 59 [] from ?_)
  refine j_aload_n 59 hC 0 (dg DX9_init 27 rfl) rfl rfl ?_
  refine j_newO (t := 0) (n := 82) 60 hC rfl inX0 tyX0_ok v_435 v_169 v_33 k_82 (z15 (82) (Nat.le_refl _)) df0 (Nat.le_of_ble_eq_true rfl) (Nat.le_of_ble_eq_true rfl) (dg DX9_init 28 rfl) ?_
  have z16 : Z 83 (sx4 σ) := z15.up (by decide)
  refine j_dup 63 hC (dg DX9_init 29 rfl) rfl ?_
  refine j_IN0 64 hC hA (c_X0_init z16) hX9_38 ⟨(Nat.le_of_ble_eq_true rfl), (Nat.le_of_ble_eq_true rfl)⟩ ⟨(Nat.le_of_ble_eq_true rfl), (Nat.le_of_ble_eq_true rfl)⟩ (Nat.le_of_ble_eq_true rfl) (dg DX9_init 30 rfl) (fun τ e => ?_)
  subst e
  have z17 : Z 85 (u2 (u2 (sx4 σ) 82 0 1) 82 1 1) := ((z16.up (by decide)).u (by decide)).u (by decide)
  refine j_putF (g := 82) 67 hC hIn gX9_39 k_0 (by decide) (by decide) rfl gf9_5 rfl rfl (dg DX9_init 31 rfl) ?_
  have z18 : Z 85 (sx5 σ) := z17.u (by decide)
  refine (show J X 1 B 85 Tr 84 1279 (sx5 σ) [(0, .ref (B + 0))] 70 [] from ?_)
  refine j_aload_n 70 hC 0 (dg DX9_init 32 rfl) rfl rfl ?_
  refine j_newO (t := 1) (n := 85) 71 hC rfl inX1 tyX1_ok v_459 v_285 v_34 k_85 (z18 (85) (Nat.le_refl _)) df1 (Nat.le_of_ble_eq_true rfl) (Nat.le_of_ble_eq_true rfl) (dg DX9_init 33 rfl) ?_
  have z19 : Z 86 (sx5 σ) := z18.up (by decide)
  refine j_dup 74 hC (dg DX9_init 34 rfl) rfl ?_
  refine j_IN0 75 hC hA (c_X1_init z19) hX9_45 ⟨(Nat.le_of_ble_eq_true rfl), (Nat.le_of_ble_eq_true rfl)⟩ ⟨(Nat.le_of_ble_eq_true rfl), (Nat.le_of_ble_eq_true rfl)⟩ (Nat.le_of_ble_eq_true rfl) (dg DX9_init 35 rfl) (fun τ e => ?_)
  subst e
  have z20 : Z 88 (u2 (u2 (sx5 σ) 85 0 1) 85 1 1) := ((z19.up (by decide)).u (by decide)).u (by decide)
  refine j_putF (g := 85) 78 hC hIn gX9_46 k_0 (by decide) (by decide) rfl gf9_6 rfl rfl (dg DX9_init 36 rfl) ?_
  have z21 : Z 88 (sx6 σ) := z20.u (by decide)
  refine (show J X 1 B 88 Tr 87 1306 (sx6 σ) [(0, .ref (B + 0))] 81 [] from ?_)
  refine j_aload_n 81 hC 0 (dg DX9_init 37 rfl) rfl rfl ?_
  refine j_newO (t := 3) (n := 88) 82 hC rfl inX3 tyX3_ok v_475 v_264 v_35 k_88 (z21 (88) (Nat.le_refl _)) df3 (Nat.le_of_ble_eq_true rfl) (Nat.le_of_ble_eq_true rfl) (dg DX9_init 38 rfl) ?_
  have z22 : Z 89 (sx6 σ) := z21.up (by decide)
  refine j_dup 85 hC (dg DX9_init 39 rfl) rfl ?_
  refine j_IN0 86 hC hA (c_X3_init z22) hX9_52 ⟨(Nat.le_of_ble_eq_true rfl), (Nat.le_of_ble_eq_true rfl)⟩ ⟨(Nat.le_of_ble_eq_true rfl), (Nat.le_of_ble_eq_true rfl)⟩ (Nat.le_of_ble_eq_true rfl) (dg DX9_init 40 rfl) (fun τ e => ?_)
  subst e
  have z23 : Z 90 (u2 (sx6 σ) 88 0 1) := (z22.up (by decide)).u (by decide)
  refine j_putF (g := 88) 89 hC hIn gX9_53 k_0 (by decide) (by decide) rfl gf9_7 rfl rfl (dg DX9_init 41 rfl) ?_
  have z24 : Z 90 (sx7 σ) := z23.u (by decide)
  refine (show J X 1 B 90 Tr 89 1316 (sx7 σ) [(0, .ref (B + 0))] 92 [] from ?_)
  refine j_aload_n 92 hC 0 (dg DX9_init 42 rfl) rfl rfl ?_
  refine j_newO (t := 7) (n := 90) 93 hC rfl inX7 tyX7_ok v_484 v_485 v_36 k_90 (z24 (90) (Nat.le_refl _)) df7 (Nat.le_of_ble_eq_true rfl) (Nat.le_of_ble_eq_true rfl) (dg DX9_init 43 rfl) ?_
  have z25 : Z 91 (sx7 σ) := z24.up (by decide)
  refine j_dup 96 hC (dg DX9_init 44 rfl) rfl ?_
  refine j_IN0 97 hC hA (c_X7_init z25) hX9_59 ⟨(Nat.le_of_ble_eq_true rfl), (Nat.le_of_ble_eq_true rfl)⟩ ⟨(Nat.le_of_ble_eq_true rfl), (Nat.le_of_ble_eq_true rfl)⟩ (Nat.le_of_ble_eq_true rfl) (dg DX9_init 45 rfl) (fun τ e => ?_)
  subst e
  have z26 : Z 92 (u2 (sx7 σ) 90 0 1) := (z25.up (by decide)).u (by decide)
  refine j_putF (g := 90) 100 hC hIn gX9_60 k_0 (by decide) (by decide) rfl gf9_8 rfl rfl (dg DX9_init 46 rfl) ?_
  have z27 : Z 92 (sx8 σ) := z26.u (by decide)
  refine (show J X 1 B 92 Tr 91 1393 (sx8 σ) [(0, .ref (B + 0))] 103 [] from ?_)
  refine j_aload_n 103 hC 0 (dg DX9_init 47 rfl) rfl rfl ?_
  refine j_newO (t := 2) (n := 92) 104 hC rfl inX2 tyX2_ok v_517 v_518 v_37 k_92 (z27 (92) (Nat.le_refl _)) df2 (Nat.le_of_ble_eq_true rfl) (Nat.le_of_ble_eq_true rfl) (dg DX9_init 48 rfl) ?_
  have z28 : Z 93 (sx8 σ) := z27.up (by decide)
  refine j_dup 107 hC (dg DX9_init 49 rfl) rfl ?_
  refine j_IN0 108 hC hA (c_X2_init z28) hX9_66 ⟨(Nat.le_of_ble_eq_true rfl), (Nat.le_of_ble_eq_true rfl)⟩ ⟨(Nat.le_of_ble_eq_true rfl), (Nat.le_of_ble_eq_true rfl)⟩ (Nat.le_of_ble_eq_true rfl) (dg DX9_init 50 rfl) (fun τ e => ?_)
  subst e
  have z29 : Z 94 (u2 (sx8 σ) 92 0 1) := (z28.up (by decide)).u (by decide)
  refine j_putF (g := 92) 111 hC hIn gX9_67 k_0 (by decide) (by decide) rfl gf9_9 rfl rfl (dg DX9_init 51 rfl) ?_
  have z30 : Z 94 (sx9 σ) := z29.u (by decide)
  refine (show J X 1 B 94 Tr 93 1419 (sx9 σ) [(0, .ref (B + 0))] 114 [] from ?_)
  refine j_aload_n 114 hC 0 (dg DX9_init 52 rfl) rfl rfl ?_
  refine j_newO (t := 5) (n := 94) 115 hC rfl inX5 tyX5_ok v_529 v_530 v_38 k_94 (z30 (94) (Nat.le_refl _)) df5 (Nat.le_of_ble_eq_true rfl) (Nat.le_of_ble_eq_true rfl) (dg DX9_init 53 rfl) ?_
  have z31 : Z 95 (sx9 σ) := z30.up (by decide)
  refine j_dup 118 hC (dg DX9_init 54 rfl) rfl ?_
  refine j_IN0 119 hC hA (c_X5_init z31) hX9_73 ⟨(Nat.le_of_ble_eq_true rfl), (Nat.le_of_ble_eq_true rfl)⟩ ⟨(Nat.le_of_ble_eq_true rfl), (Nat.le_of_ble_eq_true rfl)⟩ (Nat.le_of_ble_eq_true rfl) (dg DX9_init 55 rfl) (fun τ e => ?_)
  subst e
  have z32 : Z 95 ((sx9 σ)) := z31.up (by decide)
  refine j_putF (g := 94) 122 hC hIn gX9_74 k_0 (by decide) (by decide) rfl gf9_10 rfl rfl (dg DX9_init 56 rfl) ?_
  have z33 : Z 95 (sx10 σ) := z32.u (by decide)
  refine (show J X 1 B 95 Tr 94 1422 (sx10 σ) [(0, .ref (B + 0))] 125 [] from ?_)
  refine j_aload_n 125 hC 0 (dg DX9_init 57 rfl) rfl rfl ?_
  refine j_iconst 126 hC (dg DX9_init 58 rfl) (v := 0) (by decide) ?_
  refine j_putZ1 127 hC gX9_78 k_0 (by decide) (by decide) rfl gp9_11 rfl rfl (dg DX9_init 59 rfl) ?_
  have z34 : Z 95 (sx11 σ) := z33.u (by decide)
  refine (show J X 1 B 95 Tr 94 1422 (sx11 σ) [(0, .ref (B + 0))] 130 [] from ?_)
  refine j_aload_n 130 hC 0 (dg DX9_init 60 rfl) rfl rfl ?_
  refine j_bipush 131 hC (dg DX9_init 61 rfl) (v := (-4)) (by decide) ?_
  refine j_putI1 133 hC gX9_82 k_0 (by decide) (by decide) rfl gp9_12 (dg DX9_init 62 rfl) ?_
  have z35 : Z 95 (sx12 σ) := z34.u (by decide)
  refine (show J X 1 B 95 Tr 94 1422 (sx12 σ) [(0, .ref (B + 0))] 136 [] from ?_)
  exact hR 136 _ _ (dg DX9_init 63 rfl) rfl
