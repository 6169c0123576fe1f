/-! by program: the law's walk, over the judgement J -/
/-- the script, as the start holds it -/
def Scr (X : XT) (b L B : Nat) (xs : Nat → Int32) : Prop := match X with
  | (p, l, e, R, s, m, args, below, meth, c, D, cI, cW, Q) => va_X b L xs s s.heap ∧ b < s.heap.size ∧ ¬ B ≤ b
section JL
variable {X : XT} {nL B n cn sn : Nat} {I : SS → Prop} {σ : SS} {lv : List (Nat × Value)} {cc : ByteArray} {own : String} {R0 : Room} {st : List Value} {b L : Nat} {xs : Nat → Int32}
theorem j_sld {i : Int32} (pc q : Nat) (hC : Cx X nL cc own R0) (hX : Scr X b L B xs) (hq : i = nI q) (hlt : q < L) (hL : L ≤ 2048) (hd : decode cc pc = .ok (.iaload, 1)) (k : J X nL B n I cn sn σ lv (pc + 1) (.int (xs q) :: st)) : J X nL B n I cn sn σ lv pc (.int i :: .ref b :: st) := by
  obtain ⟨p, l, e, R, s, m, args, below, meth, c, D, cI, cW, Q⟩ := X
  subst hq
  intro H locs ls hW hI hS hl
  refine va_sld hC.1 hC.2.1 hX.1 hX.2.1 hX.2.2 hS (vp_in_nI hlt (by omega)) hd ?_
  rw [nI_clamp (by omega)]
  exact k H locs ls hW hI hS hl
theorem j_slen (pc : Nat) (hC : Cx X nL cc own R0) (hX : Scr X b L B xs) (hd : decode cc pc = .ok (.arraylength, 1)) (k : J X nL B n I cn sn σ lv (pc + 1) (.int (nI L) :: st)) : J X nL B n I cn sn σ lv pc (.ref b :: st) := by
  obtain ⟨p, l, e, R, s, m, args, below, meth, c, D, cI, cW, Q⟩ := X
  intro H locs ls hW hI hS hl
  exact va_slen hC.1 hC.2.1 hX.1 hX.2.1 hX.2.2 hS hd (k H locs ls hW hI hS hl)
theorem j_rs {pc : Nat} (h : RS σ) (k : J X nL B n RS cn sn σ lv pc st) : J X nL B n Tr cn sn σ lv pc st := by
  obtain ⟨p, l, e, R, s, m, args, below, meth, c, D, cI, cW, Q⟩ := X
  exact fun H locs ls hW _ hS hl => k H locs ls hW h hS hl
theorem j_wid {pc cn' sn' : Nat} (h1 : cn ≤ cn') (h2 : sn ≤ sn') (k : J X nL B n I cn' sn' σ lv pc st) : J X nL B n I cn sn σ lv pc st := by
  obtain ⟨p, l, e, R, s, m, args, below, meth, c, D, cI, cW, Q⟩ := X
  exact fun H locs ls hW hI hS hl => W.widen h1 h2 (k H locs ls hW hI hS hl)
end JL
set_option maxRecDepth 100000 in
set_option maxHeartbeats 4000000 in
theorem lc_0 {X : XT} {B : Nat} (hC : Cx X 4 cL_law RL room_1) {b L : Nat} {xs : Nat → Int32} (hL : L ≤ 2048) (hX : Scr X b L B xs) {i : Nat} (hi : i + 4 ≤ L) {σ : SS} (h : INV σ) (rest : ∀ τ, INV τ → J X 4 B 103 RS 103 2338 τ [(0, .ref b), (1, .ref (B + 0)), (2, .ref (B + 95)), (3, .int (nI i))] 963 []) : J X 4 B 103 RS 103 2338 σ [(0, .ref b), (1, .ref (B + 0)), (2, .ref (B + 95)), (3, .int (nI i))] 188 [] := by
  refine j_aload_n 188 hC 1 (dg DL_law_0 22 rfl) rfl rfl ?_
  refine j_aload_n 189 hC 0 (dg DL_law_0 23 rfl) rfl rfl ?_
  refine j_iload_n 190 hC 3 (dg DL_law_0 24 rfl) rfl rfl ?_
  refine j_iconst 191 hC (dg DL_law_0 25 rfl) (v := 1) (by decide) ?_
  refine j_iadd 192 hC (dg DL_law_0 26 rfl) ?_
  refine j_sld 193 (i + 1) hC hX (nI_add i 1) (by omega) hL (dg DL_law_0 27 rfl) ?_
  refine j_aload_n 194 hC 0 (dg DL_law_0 28 rfl) rfl rfl ?_
  refine j_iload_n 195 hC 3 (dg DL_law_0 29 rfl) rfl rfl ?_
  refine j_iconst 196 hC (dg DL_law_0 30 rfl) (v := 2) (by decide) ?_
  refine j_iadd 197 hC (dg DL_law_0 31 rfl) ?_
  refine j_sld 198 (i + 2) hC hX (nI_add i 2) (by omega) hL (dg DL_law_0 32 rfl) ?_
  refine j_aload_n 199 hC 0 (dg DL_law_0 33 rfl) rfl rfl ?_
  refine j_iload_n 200 hC 3 (dg DL_law_0 34 rfl) rfl rfl ?_
  refine j_iconst 201 hC (dg DL_law_0 35 rfl) (v := 3) (by decide) ?_
  refine j_iadd 202 hC (dg DL_law_0 36 rfl) ?_
  refine j_sld 203 (i + 3) hC hX (nI_add i 3) (by omega) hL (dg DL_law_0 37 rfl) ?_
  refine j_Vi (As := [.int (xs (i + 1)), .int (xs (i + 2)), .int (xs (i + 3))]) 204 hC (m_X9_post (b_post h (xs (i + 1)) (xs (i + 2)) (xs (i + 3)))) kkL_13 k_0 (by decide) ⟨_, _, rfl⟩ ⟨⟨(Nat.le_of_ble_eq_true rfl), (Nat.le_of_ble_eq_true rfl)⟩, (Nat.le_of_ble_eq_true rfl), (Nat.le_of_ble_eq_true rfl)⟩ rfl rfl (Nat.le_of_ble_eq_true rfl) (dg DL_law_0 38 rfl) (fun r τ hw => ?_)
  have hw : wp_X10_post τ (xs (i + 1)) (xs (i + 2)) (xs (i + 3)) (fun r' υ => r' = r ∧ INV υ) := hw
  refine j_aload_n 207 hC 2 (dg DL_law_0 39 rfl) rfl rfl ?_
  refine j_aload_n 208 hC 0 (dg DL_law_0 40 rfl) rfl rfl ?_
  refine j_iload_n 209 hC 3 (dg DL_law_0 41 rfl) rfl rfl ?_
  refine j_iconst 210 hC (dg DL_law_0 42 rfl) (v := 1) (by decide) ?_
  refine j_iadd 211 hC (dg DL_law_0 43 rfl) ?_
  refine j_sld 212 (i + 1) hC hX (nI_add i 1) (by omega) hL (dg DL_law_0 44 rfl) ?_
  refine j_aload_n 213 hC 0 (dg DL_law_0 45 rfl) rfl rfl ?_
  refine j_iload_n 214 hC 3 (dg DL_law_0 46 rfl) rfl rfl ?_
  refine j_iconst 215 hC (dg DL_law_0 47 rfl) (v := 2) (by decide) ?_
  refine j_iadd 216 hC (dg DL_law_0 48 rfl) ?_
  refine j_sld 217 (i + 2) hC hX (nI_add i 2) (by omega) hL (dg DL_law_0 49 rfl) ?_
  refine j_aload_n 218 hC 0 (dg DL_law_0 50 rfl) rfl rfl ?_
  refine j_iload_n 219 hC 3 (dg DL_law_0 51 rfl) rfl rfl ?_
  refine j_iconst 220 hC (dg DL_law_0 52 rfl) (v := 3) (by decide) ?_
  refine j_iadd 221 hC (dg DL_law_0 53 rfl) ?_
  refine j_sld 222 (i + 3) hC hX (nI_add i 3) (by omega) hL (dg DL_law_0 54 rfl) ?_
  refine j_Vi (As := [.int (xs (i + 1)), .int (xs (i + 2)), .int (xs (i + 3))]) 223 hC (m_X10_post hw) kkL_17 k_95 (by decide) ⟨_, _, rfl⟩ ⟨⟨(Nat.le_of_ble_eq_true rfl), (Nat.le_of_ble_eq_true rfl)⟩, (Nat.le_of_ble_eq_true rfl), (Nat.le_of_ble_eq_true rfl)⟩ rfl rfl (Nat.le_of_ble_eq_true rfl) (dg DL_law_0 55 rfl) (fun r' υ hw => ?_)
  obtain ⟨e, hi2⟩ := hw
  refine j_icmp_eq 226 963 hC (dg DL_law_0 56 rfl) (by decide) (fun _ => ?_) (fun ne => absurd e.symm ne)
  exact rest υ hi2
set_option maxRecDepth 100000 in
set_option maxHeartbeats 4000000 in
theorem lc_1 {X : XT} {B : Nat} (hC : Cx X 4 cL_law RL room_1) {b L : Nat} {xs : Nat → Int32} (hL : L ≤ 2048) (hX : Scr X b L B xs) {i : Nat} (hi : i + 4 ≤ L) {σ : SS} (h : INV σ) (rest : ∀ τ, INV τ → J X 4 B 103 RS 103 2338 τ [(0, .ref b), (1, .ref (B + 0)), (2, .ref (B + 95)), (3, .int (nI i))] 963 []) : J X 4 B 103 RS 103 2338 σ [(0, .ref b), (1, .ref (B + 0)), (2, .ref (B + 95)), (3, .int (nI i))] 231 [] := by
  refine j_aload_n 231 hC 1 (dg DL_law_0 59 rfl) rfl rfl ?_
  refine j_aload_n 232 hC 0 (dg DL_law_1 0 rfl) rfl rfl ?_
  refine j_iload_n 233 hC 3 (dg DL_law_1 1 rfl) rfl rfl ?_
  refine j_iconst 234 hC (dg DL_law_1 2 rfl) (v := 1) (by decide) ?_
  refine j_iadd 235 hC (dg DL_law_1 3 rfl) ?_
  refine j_sld 236 (i + 1) hC hX (nI_add i 1) (by omega) hL (dg DL_law_1 4 rfl) ?_
  refine j_Vi (As := [.int (xs (i + 1))]) 237 hC (m_X9_tear (b_tear h (xs (i + 1)))) kkL_18 k_0 (by decide) ⟨_, _, rfl⟩ ⟨⟨(Nat.le_of_ble_eq_true rfl), (Nat.le_of_ble_eq_true rfl)⟩, (Nat.le_of_ble_eq_true rfl), (Nat.le_of_ble_eq_true rfl)⟩ rfl rfl (Nat.le_of_ble_eq_true rfl) (dg DL_law_1 5 rfl) (fun r τ hw => ?_)
  have hw : wp_X10_tear τ (xs (i + 1)) (fun r' υ => r' = r ∧ INV υ) := hw
  refine j_aload_n 240 hC 2 (dg DL_law_1 6 rfl) rfl rfl ?_
  refine j_aload_n 241 hC 0 (dg DL_law_1 7 rfl) rfl rfl ?_
  refine j_iload_n 242 hC 3 (dg DL_law_1 8 rfl) rfl rfl ?_
  refine j_iconst 243 hC (dg DL_law_1 9 rfl) (v := 1) (by decide) ?_
  refine j_iadd 244 hC (dg DL_law_1 10 rfl) ?_
  refine j_sld 245 (i + 1) hC hX (nI_add i 1) (by omega) hL (dg DL_law_1 11 rfl) ?_
  refine j_Vi (As := [.int (xs (i + 1))]) 246 hC (m_X10_tear hw) kkL_22 k_95 (by decide) ⟨_, _, rfl⟩ ⟨⟨(Nat.le_of_ble_eq_true rfl), (Nat.le_of_ble_eq_true rfl)⟩, (Nat.le_of_ble_eq_true rfl), (Nat.le_of_ble_eq_true rfl)⟩ rfl rfl (Nat.le_of_ble_eq_true rfl) (dg DL_law_1 12 rfl) (fun r' υ hw => ?_)
  obtain ⟨e, hi2⟩ := hw
  refine j_icmp_eq 249 963 hC (dg DL_law_1 13 rfl) (by decide) (fun _ => ?_) (fun ne => absurd e.symm ne)
  exact rest υ hi2
set_option maxRecDepth 100000 in
set_option maxHeartbeats 4000000 in
theorem lc_2 {X : XT} {B : Nat} (hC : Cx X 4 cL_law RL room_1) {b L : Nat} {xs : Nat → Int32} (hL : L ≤ 2048) (hX : Scr X b L B xs) {i : Nat} (hi : i + 4 ≤ L) {σ : SS} (h : INV σ) (rest : ∀ τ, INV τ → J X 4 B 103 RS 103 2338 τ [(0, .ref b), (1, .ref (B + 0)), (2, .ref (B + 95)), (3, .int (nI i))] 963 []) : J X 4 B 103 RS 103 2338 σ [(0, .ref b), (1, .ref (B + 0)), (2, .ref (B + 95)), (3, .int (nI i))] 254 [] := by
  refine j_aload_n 254 hC 1 (dg DL_law_1 16 rfl) rfl rfl ?_
  refine j_aload_n 255 hC 0 (dg DL_law_1 17 rfl) rfl rfl ?_
  refine j_iload_n 256 hC 3 (dg DL_law_1 18 rfl) rfl rfl ?_
  refine j_iconst 257 hC (dg DL_law_1 19 rfl) (v := 1) (by decide) ?_
  refine j_iadd 258 hC (dg DL_law_1 20 rfl) ?_
  refine j_sld 259 (i + 1) hC hX (nI_add i 1) (by omega) hL (dg DL_law_1 21 rfl) ?_
  refine j_aload_n 260 hC 0 (dg DL_law_1 22 rfl) rfl rfl ?_
  refine j_iload_n 261 hC 3 (dg DL_law_1 23 rfl) rfl rfl ?_
  refine j_iconst 262 hC (dg DL_law_1 24 rfl) (v := 2) (by decide) ?_
  refine j_iadd 263 hC (dg DL_law_1 25 rfl) ?_
  refine j_sld 264 (i + 2) hC hX (nI_add i 2) (by omega) hL (dg DL_law_1 26 rfl) ?_
  refine j_aload_n 265 hC 0 (dg DL_law_1 27 rfl) rfl rfl ?_
  refine j_iload_n 266 hC 3 (dg DL_law_1 28 rfl) rfl rfl ?_
  refine j_iconst 267 hC (dg DL_law_1 29 rfl) (v := 3) (by decide) ?_
  refine j_iadd 268 hC (dg DL_law_1 30 rfl) ?_
  refine j_sld 269 (i + 3) hC hX (nI_add i 3) (by omega) hL (dg DL_law_1 31 rfl) ?_
  refine j_Vi (As := [.int (xs (i + 1)), .int (xs (i + 2)), .int (xs (i + 3))]) 270 hC (m_X9_reach (b_reach h (xs (i + 1)) (xs (i + 2)) (xs (i + 3)))) kkL_23 k_0 (by decide) ⟨_, _, rfl⟩ ⟨⟨(Nat.le_of_ble_eq_true rfl), (Nat.le_of_ble_eq_true rfl)⟩, (Nat.le_of_ble_eq_true rfl), (Nat.le_of_ble_eq_true rfl)⟩ rfl rfl (Nat.le_of_ble_eq_true rfl) (dg DL_law_1 32 rfl) (fun r τ hw => ?_)
  have hw : wp_X10_reach τ (xs (i + 1)) (xs (i + 2)) (xs (i + 3)) (fun r' υ => r' = r ∧ INV υ) := hw
  refine j_aload_n 273 hC 2 (dg DL_law_1 33 rfl) rfl rfl ?_
  refine j_aload_n 274 hC 0 (dg DL_law_1 34 rfl) rfl rfl ?_
  refine j_iload_n 275 hC 3 (dg DL_law_1 35 rfl) rfl rfl ?_
  refine j_iconst 276 hC (dg DL_law_1 36 rfl) (v := 1) (by decide) ?_
  refine j_iadd 277 hC (dg DL_law_1 37 rfl) ?_
  refine j_sld 278 (i + 1) hC hX (nI_add i 1) (by omega) hL (dg DL_law_1 38 rfl) ?_
  refine j_aload_n 279 hC 0 (dg DL_law_1 39 rfl) rfl rfl ?_
  refine j_iload_n 280 hC 3 (dg DL_law_1 40 rfl) rfl rfl ?_
  refine j_iconst 281 hC (dg DL_law_1 41 rfl) (v := 2) (by decide) ?_
  refine j_iadd 282 hC (dg DL_law_1 42 rfl) ?_
  refine j_sld 283 (i + 2) hC hX (nI_add i 2) (by omega) hL (dg DL_law_1 43 rfl) ?_
  refine j_aload_n 284 hC 0 (dg DL_law_1 44 rfl) rfl rfl ?_
  refine j_iload_n 285 hC 3 (dg DL_law_1 45 rfl) rfl rfl ?_
  refine j_iconst 286 hC (dg DL_law_1 46 rfl) (v := 3) (by decide) ?_
  refine j_iadd 287 hC (dg DL_law_1 47 rfl) ?_
  refine j_sld 288 (i + 3) hC hX (nI_add i 3) (by omega) hL (dg DL_law_1 48 rfl) ?_
  refine j_Vi (As := [.int (xs (i + 1)), .int (xs (i + 2)), .int (xs (i + 3))]) 289 hC (m_X10_reach hw) kkL_26 k_95 (by decide) ⟨_, _, rfl⟩ ⟨⟨(Nat.le_of_ble_eq_true rfl), (Nat.le_of_ble_eq_true rfl)⟩, (Nat.le_of_ble_eq_true rfl), (Nat.le_of_ble_eq_true rfl)⟩ rfl rfl (Nat.le_of_ble_eq_true rfl) (dg DL_law_1 49 rfl) (fun r' υ hw => ?_)
  obtain ⟨e, hi2⟩ := hw
  refine j_icmp_eq 292 963 hC (dg DL_law_1 50 rfl) (by decide) (fun _ => ?_) (fun ne => absurd e.symm ne)
  exact rest υ hi2
set_option maxRecDepth 100000 in
set_option maxHeartbeats 4000000 in
theorem lc_3 {X : XT} {B : Nat} (hC : Cx X 4 cL_law RL room_1) {b L : Nat} {xs : Nat → Int32} (hL : L ≤ 2048) (hX : Scr X b L B xs) {i : Nat} (hi : i + 4 ≤ L) {σ : SS} (h : INV σ) (rest : ∀ τ, INV τ → J X 4 B 103 RS 103 2338 τ [(0, .ref b), (1, .ref (B + 0)), (2, .ref (B + 95)), (3, .int (nI i))] 963 []) : J X 4 B 103 RS 103 2338 σ [(0, .ref b), (1, .ref (B + 0)), (2, .ref (B + 95)), (3, .int (nI i))] 297 [] := by
  refine j_aload_n 297 hC 1 (dg DL_law_1 53 rfl) rfl rfl ?_
  refine j_aload_n 298 hC 0 (dg DL_law_1 54 rfl) rfl rfl ?_
  refine j_iload_n 299 hC 3 (dg DL_law_1 55 rfl) rfl rfl ?_
  refine j_iconst 300 hC (dg DL_law_1 56 rfl) (v := 1) (by decide) ?_
  refine j_iadd 301 hC (dg DL_law_1 57 rfl) ?_
  refine j_sld 302 (i + 1) hC hX (nI_add i 1) (by omega) hL (dg DL_law_1 58 rfl) ?_
  refine j_aload_n 303 hC 0 (dg DL_law_1 59 rfl) rfl rfl ?_
  refine j_iload_n 304 hC 3 (dg DL_law_2 0 rfl) rfl rfl ?_
  refine j_iconst 305 hC (dg DL_law_2 1 rfl) (v := 2) (by decide) ?_
  refine j_iadd 306 hC (dg DL_law_2 2 rfl) ?_
  refine j_sld 307 (i + 2) hC hX (nI_add i 2) (by omega) hL (dg DL_law_2 3 rfl) ?_
  refine j_aload_n 308 hC 0 (dg DL_law_2 4 rfl) rfl rfl ?_
  refine j_iload_n 309 hC 3 (dg DL_law_2 5 rfl) rfl rfl ?_
  refine j_iconst 310 hC (dg DL_law_2 6 rfl) (v := 3) (by decide) ?_
  refine j_iadd 311 hC (dg DL_law_2 7 rfl) ?_
  refine j_sld 312 (i + 3) hC hX (nI_add i 3) (by omega) hL (dg DL_law_2 8 rfl) ?_
  refine j_Vi (As := [.int (xs (i + 1)), .int (xs (i + 2)), .int (xs (i + 3))]) 313 hC (m_X9_blind (b_blind h (xs (i + 1)) (xs (i + 2)) (xs (i + 3)))) kkL_27 k_0 (by decide) ⟨_, _, rfl⟩ ⟨⟨(Nat.le_of_ble_eq_true rfl), (Nat.le_of_ble_eq_true rfl)⟩, (Nat.le_of_ble_eq_true rfl), (Nat.le_of_ble_eq_true rfl)⟩ rfl rfl (Nat.le_of_ble_eq_true rfl) (dg DL_law_2 9 rfl) (fun r τ hw => ?_)
  have hw : wp_X10_blind τ (xs (i + 1)) (xs (i + 2)) (xs (i + 3)) (fun r' υ => r' = r ∧ INV υ) := hw
  refine j_aload_n 316 hC 2 (dg DL_law_2 10 rfl) rfl rfl ?_
  refine j_aload_n 317 hC 0 (dg DL_law_2 11 rfl) rfl rfl ?_
  refine j_iload_n 318 hC 3 (dg DL_law_2 12 rfl) rfl rfl ?_
  refine j_iconst 319 hC (dg DL_law_2 13 rfl) (v := 1) (by decide) ?_
  refine j_iadd 320 hC (dg DL_law_2 14 rfl) ?_
  refine j_sld 321 (i + 1) hC hX (nI_add i 1) (by omega) hL (dg DL_law_2 15 rfl) ?_
  refine j_aload_n 322 hC 0 (dg DL_law_2 16 rfl) rfl rfl ?_
  refine j_iload_n 323 hC 3 (dg DL_law_2 17 rfl) rfl rfl ?_
  refine j_iconst 324 hC (dg DL_law_2 18 rfl) (v := 2) (by decide) ?_
  refine j_iadd 325 hC (dg DL_law_2 19 rfl) ?_
  refine j_sld 326 (i + 2) hC hX (nI_add i 2) (by omega) hL (dg DL_law_2 20 rfl) ?_
  refine j_aload_n 327 hC 0 (dg DL_law_2 21 rfl) rfl rfl ?_
  refine j_iload_n 328 hC 3 (dg DL_law_2 22 rfl) rfl rfl ?_
  refine j_iconst 329 hC (dg DL_law_2 23 rfl) (v := 3) (by decide) ?_
  refine j_iadd 330 hC (dg DL_law_2 24 rfl) ?_
  refine j_sld 331 (i + 3) hC hX (nI_add i 3) (by omega) hL (dg DL_law_2 25 rfl) ?_
  refine j_Vi (As := [.int (xs (i + 1)), .int (xs (i + 2)), .int (xs (i + 3))]) 332 hC (m_X10_blind hw) kkL_30 k_95 (by decide) ⟨_, _, rfl⟩ ⟨⟨(Nat.le_of_ble_eq_true rfl), (Nat.le_of_ble_eq_true rfl)⟩, (Nat.le_of_ble_eq_true rfl), (Nat.le_of_ble_eq_true rfl)⟩ rfl rfl (Nat.le_of_ble_eq_true rfl) (dg DL_law_2 26 rfl) (fun r' υ hw => ?_)
  obtain ⟨e, hi2⟩ := hw
  refine j_icmp_eq 335 963 hC (dg DL_law_2 27 rfl) (by decide) (fun _ => ?_) (fun ne => absurd e.symm ne)
  exact rest υ hi2
set_option maxRecDepth 100000 in
set_option maxHeartbeats 4000000 in
theorem lc_4 {X : XT} {B : Nat} (hC : Cx X 4 cL_law RL room_1) {b L : Nat} {xs : Nat → Int32} (hL : L ≤ 2048) (hX : Scr X b L B xs) {i : Nat} (hi : i + 4 ≤ L) {σ : SS} (h : INV σ) (rest : ∀ τ, INV τ → J X 4 B 103 RS 103 2338 τ [(0, .ref b), (1, .ref (B + 0)), (2, .ref (B + 95)), (3, .int (nI i))] 963 []) : J X 4 B 103 RS 103 2338 σ [(0, .ref b), (1, .ref (B + 0)), (2, .ref (B + 95)), (3, .int (nI i))] 340 [] := by
  refine j_aload_n 340 hC 1 (dg DL_law_2 30 rfl) rfl rfl ?_
  refine j_aload_n 341 hC 0 (dg DL_law_2 31 rfl) rfl rfl ?_
  refine j_iload_n 342 hC 3 (dg DL_law_2 32 rfl) rfl rfl ?_
  refine j_iconst 343 hC (dg DL_law_2 33 rfl) (v := 1) (by decide) ?_
  refine j_iadd 344 hC (dg DL_law_2 34 rfl) ?_
  refine j_sld 345 (i + 1) hC hX (nI_add i 1) (by omega) hL (dg DL_law_2 35 rfl) ?_
  refine j_Vi (As := [.int (xs (i + 1))]) 346 hC (m_X9_see (b_see h (xs (i + 1)))) kkL_31 k_0 (by decide) ⟨_, _, rfl⟩ ⟨⟨(Nat.le_of_ble_eq_true rfl), (Nat.le_of_ble_eq_true rfl)⟩, (Nat.le_of_ble_eq_true rfl), (Nat.le_of_ble_eq_true rfl)⟩ rfl rfl (Nat.le_of_ble_eq_true rfl) (dg DL_law_2 36 rfl) (fun r τ hw => ?_)
  have hw : wp_X10_see τ (xs (i + 1)) (fun r' υ => r' = r ∧ INV υ) := hw
  refine j_aload_n 349 hC 2 (dg DL_law_2 37 rfl) rfl rfl ?_
  refine j_aload_n 350 hC 0 (dg DL_law_2 38 rfl) rfl rfl ?_
  refine j_iload_n 351 hC 3 (dg DL_law_2 39 rfl) rfl rfl ?_
  refine j_iconst 352 hC (dg DL_law_2 40 rfl) (v := 1) (by decide) ?_
  refine j_iadd 353 hC (dg DL_law_2 41 rfl) ?_
  refine j_sld 354 (i + 1) hC hX (nI_add i 1) (by omega) hL (dg DL_law_2 42 rfl) ?_
  refine j_Vi (As := [.int (xs (i + 1))]) 355 hC (m_X10_see hw) kkL_34 k_95 (by decide) ⟨_, _, rfl⟩ ⟨⟨(Nat.le_of_ble_eq_true rfl), (Nat.le_of_ble_eq_true rfl)⟩, (Nat.le_of_ble_eq_true rfl), (Nat.le_of_ble_eq_true rfl)⟩ rfl rfl (Nat.le_of_ble_eq_true rfl) (dg DL_law_2 43 rfl) (fun r' υ hw => ?_)
  obtain ⟨e, hi2⟩ := hw
  refine j_icmp_eq 358 963 hC (dg DL_law_2 44 rfl) (by decide) (fun _ => ?_) (fun ne => absurd e.symm ne)
  exact rest υ hi2
set_option maxRecDepth 100000 in
set_option maxHeartbeats 4000000 in
theorem lc_5 {X : XT} {B : Nat} (hC : Cx X 4 cL_law RL room_1) {b L : Nat} {xs : Nat → Int32} (hL : L ≤ 2048) (hX : Scr X b L B xs) {i : Nat} (hi : i + 4 ≤ L) {σ : SS} (h : INV σ) (rest : ∀ τ, INV τ → J X 4 B 103 RS 103 2338 τ [(0, .ref b), (1, .ref (B + 0)), (2, .ref (B + 95)), (3, .int (nI i))] 963 []) : J X 4 B 103 RS 103 2338 σ [(0, .ref b), (1, .ref (B + 0)), (2, .ref (B + 95)), (3, .int (nI i))] 363 [] := by
  refine j_aload_n 363 hC 1 (dg DL_law_2 47 rfl) rfl rfl ?_
  refine j_aload_n 364 hC 0 (dg DL_law_2 48 rfl) rfl rfl ?_
  refine j_iload_n 365 hC 3 (dg DL_law_2 49 rfl) rfl rfl ?_
  refine j_iconst 366 hC (dg DL_law_2 50 rfl) (v := 1) (by decide) ?_
  refine j_iadd 367 hC (dg DL_law_2 51 rfl) ?_
  refine j_sld 368 (i + 1) hC hX (nI_add i 1) (by omega) hL (dg DL_law_2 52 rfl) ?_
  refine j_aload_n 369 hC 0 (dg DL_law_2 53 rfl) rfl rfl ?_
  refine j_iload_n 370 hC 3 (dg DL_law_2 54 rfl) rfl rfl ?_
  refine j_iconst 371 hC (dg DL_law_2 55 rfl) (v := 2) (by decide) ?_
  refine j_iadd 372 hC (dg DL_law_2 56 rfl) ?_
  refine j_sld 373 (i + 2) hC hX (nI_add i 2) (by omega) hL (dg DL_law_2 57 rfl) ?_
  refine j_Vi (As := [.int (xs (i + 1)), .int (xs (i + 2))]) 374 hC (m_X9_man (b_man h (xs (i + 1)) (xs (i + 2)))) kkL_35 k_0 (by decide) ⟨_, _, rfl⟩ ⟨⟨(Nat.le_of_ble_eq_true rfl), (Nat.le_of_ble_eq_true rfl)⟩, (Nat.le_of_ble_eq_true rfl), (Nat.le_of_ble_eq_true rfl)⟩ rfl rfl (Nat.le_of_ble_eq_true rfl) (dg DL_law_2 58 rfl) (fun r τ hw => ?_)
  have hw : wp_X10_man τ (xs (i + 1)) (xs (i + 2)) (fun r' υ => r' = r ∧ INV υ) := hw
  refine j_aload_n 377 hC 2 (dg DL_law_2 59 rfl) rfl rfl ?_
  refine j_aload_n 378 hC 0 (dg DL_law_3 0 rfl) rfl rfl ?_
  refine j_iload_n 379 hC 3 (dg DL_law_3 1 rfl) rfl rfl ?_
  refine j_iconst 380 hC (dg DL_law_3 2 rfl) (v := 1) (by decide) ?_
  refine j_iadd 381 hC (dg DL_law_3 3 rfl) ?_
  refine j_sld 382 (i + 1) hC hX (nI_add i 1) (by omega) hL (dg DL_law_3 4 rfl) ?_
  refine j_aload_n 383 hC 0 (dg DL_law_3 5 rfl) rfl rfl ?_
  refine j_iload_n 384 hC 3 (dg DL_law_3 6 rfl) rfl rfl ?_
  refine j_iconst 385 hC (dg DL_law_3 7 rfl) (v := 2) (by decide) ?_
  refine j_iadd 386 hC (dg DL_law_3 8 rfl) ?_
  refine j_sld 387 (i + 2) hC hX (nI_add i 2) (by omega) hL (dg DL_law_3 9 rfl) ?_
  refine j_Vi (As := [.int (xs (i + 1)), .int (xs (i + 2))]) 388 hC (m_X10_man hw) kkL_39 k_95 (by decide) ⟨_, _, rfl⟩ ⟨⟨(Nat.le_of_ble_eq_true rfl), (Nat.le_of_ble_eq_true rfl)⟩, (Nat.le_of_ble_eq_true rfl), (Nat.le_of_ble_eq_true rfl)⟩ rfl rfl (Nat.le_of_ble_eq_true rfl) (dg DL_law_3 10 rfl) (fun r' υ hw => ?_)
  obtain ⟨e, hi2⟩ := hw
  refine j_icmp_eq 391 963 hC (dg DL_law_3 11 rfl) (by decide) (fun _ => ?_) (fun ne => absurd e.symm ne)
  exact rest υ hi2
set_option maxRecDepth 100000 in
set_option maxHeartbeats 4000000 in
theorem lc_6 {X : XT} {B : Nat} (hC : Cx X 4 cL_law RL room_1) {b L : Nat} {xs : Nat → Int32} (hL : L ≤ 2048) (hX : Scr X b L B xs) {i : Nat} (hi : i + 4 ≤ L) {σ : SS} (h : INV σ) (rest : ∀ τ, INV τ → J X 4 B 103 RS 103 2338 τ [(0, .ref b), (1, .ref (B + 0)), (2, .ref (B + 95)), (3, .int (nI i))] 963 []) : J X 4 B 103 RS 103 2338 σ [(0, .ref b), (1, .ref (B + 0)), (2, .ref (B + 95)), (3, .int (nI i))] 396 [] := by
  refine j_aload_n 396 hC 1 (dg DL_law_3 14 rfl) rfl rfl ?_
  refine j_aload_n 397 hC 0 (dg DL_law_3 15 rfl) rfl rfl ?_
  refine j_iload_n 398 hC 3 (dg DL_law_3 16 rfl) rfl rfl ?_
  refine j_iconst 399 hC (dg DL_law_3 17 rfl) (v := 1) (by decide) ?_
  refine j_iadd 400 hC (dg DL_law_3 18 rfl) ?_
  refine j_sld 401 (i + 1) hC hX (nI_add i 1) (by omega) hL (dg DL_law_3 19 rfl) ?_
  refine j_Vi (As := [.int (xs (i + 1))]) 402 hC (m_X9_hour (b_hour h (xs (i + 1)))) kkL_40 k_0 (by decide) ⟨_, _, rfl⟩ ⟨⟨(Nat.le_of_ble_eq_true rfl), (Nat.le_of_ble_eq_true rfl)⟩, (Nat.le_of_ble_eq_true rfl), (Nat.le_of_ble_eq_true rfl)⟩ rfl rfl (Nat.le_of_ble_eq_true rfl) (dg DL_law_3 20 rfl) (fun r τ hw => ?_)
  have hw : wp_X10_hour τ (xs (i + 1)) (fun r' υ => r' = r ∧ INV υ) := hw
  refine j_aload_n 405 hC 2 (dg DL_law_3 21 rfl) rfl rfl ?_
  refine j_aload_n 406 hC 0 (dg DL_law_3 22 rfl) rfl rfl ?_
  refine j_iload_n 407 hC 3 (dg DL_law_3 23 rfl) rfl rfl ?_
  refine j_iconst 408 hC (dg DL_law_3 24 rfl) (v := 1) (by decide) ?_
  refine j_iadd 409 hC (dg DL_law_3 25 rfl) ?_
  refine j_sld 410 (i + 1) hC hX (nI_add i 1) (by omega) hL (dg DL_law_3 26 rfl) ?_
  refine j_Vi (As := [.int (xs (i + 1))]) 411 hC (m_X10_hour hw) kkL_43 k_95 (by decide) ⟨_, _, rfl⟩ ⟨⟨(Nat.le_of_ble_eq_true rfl), (Nat.le_of_ble_eq_true rfl)⟩, (Nat.le_of_ble_eq_true rfl), (Nat.le_of_ble_eq_true rfl)⟩ rfl rfl (Nat.le_of_ble_eq_true rfl) (dg DL_law_3 27 rfl) (fun r' υ hw => ?_)
  obtain ⟨e, hi2⟩ := hw
  refine j_icmp_eq 414 963 hC (dg DL_law_3 28 rfl) (by decide) (fun _ => ?_) (fun ne => absurd e.symm ne)
  exact rest υ hi2
set_option maxRecDepth 100000 in
set_option maxHeartbeats 4000000 in
theorem lc_7 {X : XT} {B : Nat} (hC : Cx X 4 cL_law RL room_1) {b L : Nat} {xs : Nat → Int32} (hL : L ≤ 2048) (hX : Scr X b L B xs) {i : Nat} (hi : i + 4 ≤ L) {σ : SS} (h : INV σ) (rest : ∀ τ, INV τ → J X 4 B 103 RS 103 2338 τ [(0, .ref b), (1, .ref (B + 0)), (2, .ref (B + 95)), (3, .int (nI i))] 963 []) : J X 4 B 103 RS 103 2338 σ [(0, .ref b), (1, .ref (B + 0)), (2, .ref (B + 95)), (3, .int (nI i))] 419 [] := by
  refine j_aload_n 419 hC 1 (dg DL_law_3 31 rfl) rfl rfl ?_
  refine j_Vi (As := []) 420 hC (m_X9_watch (b_watch h)) kkL_44 k_0 (by decide) ⟨_, _, rfl⟩ ⟨⟨(Nat.le_of_ble_eq_true rfl), (Nat.le_of_ble_eq_true rfl)⟩, (Nat.le_of_ble_eq_true rfl), (Nat.le_of_ble_eq_true rfl)⟩ rfl rfl (Nat.le_of_ble_eq_true rfl) (dg DL_law_3 32 rfl) (fun r τ hw => ?_)
  have hw : wp_X10_watch τ (fun r' υ => r' = r ∧ INV υ) := hw
  refine j_aload_n 423 hC 2 (dg DL_law_3 33 rfl) rfl rfl ?_
  refine j_Vi (As := []) 424 hC (m_X10_watch hw) kkL_48 k_95 (by decide) ⟨_, _, rfl⟩ ⟨⟨(Nat.le_of_ble_eq_true rfl), (Nat.le_of_ble_eq_true rfl)⟩, (Nat.le_of_ble_eq_true rfl), (Nat.le_of_ble_eq_true rfl)⟩ rfl rfl (Nat.le_of_ble_eq_true rfl) (dg DL_law_3 34 rfl) (fun r' υ hw => ?_)
  obtain ⟨e, hi2⟩ := hw
  refine j_icmp_eq 427 963 hC (dg DL_law_3 35 rfl) (by decide) (fun _ => ?_) (fun ne => absurd e.symm ne)
  exact rest υ hi2
set_option maxRecDepth 100000 in
set_option maxHeartbeats 4000000 in
theorem lc_8 {X : XT} {B : Nat} (hC : Cx X 4 cL_law RL room_1) {b L : Nat} {xs : Nat → Int32} (hL : L ≤ 2048) (hX : Scr X b L B xs) {i : Nat} (hi : i + 4 ≤ L) {σ : SS} (h : INV σ) (rest : ∀ τ, INV τ → J X 4 B 103 RS 103 2338 τ [(0, .ref b), (1, .ref (B + 0)), (2, .ref (B + 95)), (3, .int (nI i))] 963 []) : J X 4 B 103 RS 103 2338 σ [(0, .ref b), (1, .ref (B + 0)), (2, .ref (B + 95)), (3, .int (nI i))] 432 [] := by
  refine j_aload_n 432 hC 1 (dg DL_law_3 38 rfl) rfl rfl ?_
  refine j_aload_n 433 hC 0 (dg DL_law_3 39 rfl) rfl rfl ?_
  refine j_iload_n 434 hC 3 (dg DL_law_3 40 rfl) rfl rfl ?_
  refine j_iconst 435 hC (dg DL_law_3 41 rfl) (v := 1) (by decide) ?_
  refine j_iadd 436 hC (dg DL_law_3 42 rfl) ?_
  refine j_sld 437 (i + 1) hC hX (nI_add i 1) (by omega) hL (dg DL_law_3 43 rfl) ?_
  refine j_aload_n 438 hC 0 (dg DL_law_3 44 rfl) rfl rfl ?_
  refine j_iload_n 439 hC 3 (dg DL_law_3 45 rfl) rfl rfl ?_
  refine j_iconst 440 hC (dg DL_law_3 46 rfl) (v := 2) (by decide) ?_
  refine j_iadd 441 hC (dg DL_law_3 47 rfl) ?_
  refine j_sld 442 (i + 2) hC hX (nI_add i 2) (by omega) hL (dg DL_law_3 48 rfl) ?_
  refine j_Vi (As := [.int (xs (i + 1)), .int (xs (i + 2))]) 443 hC (m_X9_postOf (b_postOf h (xs (i + 1)) (xs (i + 2)))) kkL_49 k_0 (by decide) ⟨_, _, rfl⟩ ⟨⟨(Nat.le_of_ble_eq_true rfl), (Nat.le_of_ble_eq_true rfl)⟩, (Nat.le_of_ble_eq_true rfl), (Nat.le_of_ble_eq_true rfl)⟩ rfl rfl (Nat.le_of_ble_eq_true rfl) (dg DL_law_3 49 rfl) (fun r τ hw => ?_)
  have hw : wp_X10_postOf τ (xs (i + 1)) (xs (i + 2)) (fun r' υ => r' = r ∧ INV υ) := hw
  refine j_aload_n 446 hC 2 (dg DL_law_3 50 rfl) rfl rfl ?_
  refine j_aload_n 447 hC 0 (dg DL_law_3 51 rfl) rfl rfl ?_
  refine j_iload_n 448 hC 3 (dg DL_law_3 52 rfl) rfl rfl ?_
  refine j_iconst 449 hC (dg DL_law_3 53 rfl) (v := 1) (by decide) ?_
  refine j_iadd 450 hC (dg DL_law_3 54 rfl) ?_
  refine j_sld 451 (i + 1) hC hX (nI_add i 1) (by omega) hL (dg DL_law_3 55 rfl) ?_
  refine j_aload_n 452 hC 0 (dg DL_law_3 56 rfl) rfl rfl ?_
  refine j_iload_n 453 hC 3 (dg DL_law_3 57 rfl) rfl rfl ?_
  refine j_iconst 454 hC (dg DL_law_3 58 rfl) (v := 2) (by decide) ?_
  refine j_iadd 455 hC (dg DL_law_3 59 rfl) ?_
  refine j_sld 456 (i + 2) hC hX (nI_add i 2) (by omega) hL (dg DL_law_4 0 rfl) ?_
  refine j_Vi (As := [.int (xs (i + 1)), .int (xs (i + 2))]) 457 hC (m_X10_postOf hw) kkL_52 k_95 (by decide) ⟨_, _, rfl⟩ ⟨⟨(Nat.le_of_ble_eq_true rfl), (Nat.le_of_ble_eq_true rfl)⟩, (Nat.le_of_ble_eq_true rfl), (Nat.le_of_ble_eq_true rfl)⟩ rfl rfl (Nat.le_of_ble_eq_true rfl) (dg DL_law_4 1 rfl) (fun r' υ hw => ?_)
  obtain ⟨e, hi2⟩ := hw
  refine j_icmp_eq 460 963 hC (dg DL_law_4 2 rfl) (by decide) (fun _ => ?_) (fun ne => absurd e.symm ne)
  exact rest υ hi2
set_option maxRecDepth 100000 in
set_option maxHeartbeats 4000000 in
theorem lc_9 {X : XT} {B : Nat} (hC : Cx X 4 cL_law RL room_1) {b L : Nat} {xs : Nat → Int32} (hL : L ≤ 2048) (hX : Scr X b L B xs) {i : Nat} (hi : i + 4 ≤ L) {σ : SS} (h : INV σ) (rest : ∀ τ, INV τ → J X 4 B 103 RS 103 2338 τ [(0, .ref b), (1, .ref (B + 0)), (2, .ref (B + 95)), (3, .int (nI i))] 963 []) : J X 4 B 103 RS 103 2338 σ [(0, .ref b), (1, .ref (B + 0)), (2, .ref (B + 95)), (3, .int (nI i))] 465 [] := by
  refine j_aload_n 465 hC 1 (dg DL_law_4 5 rfl) rfl rfl ?_
  refine j_aload_n 466 hC 0 (dg DL_law_4 6 rfl) rfl rfl ?_
  refine j_iload_n 467 hC 3 (dg DL_law_4 7 rfl) rfl rfl ?_
  refine j_iconst 468 hC (dg DL_law_4 8 rfl) (v := 1) (by decide) ?_
  refine j_iadd 469 hC (dg DL_law_4 9 rfl) ?_
  refine j_sld 470 (i + 1) hC hX (nI_add i 1) (by omega) hL (dg DL_law_4 10 rfl) ?_
  refine j_aload_n 471 hC 0 (dg DL_law_4 11 rfl) rfl rfl ?_
  refine j_iload_n 472 hC 3 (dg DL_law_4 12 rfl) rfl rfl ?_
  refine j_iconst 473 hC (dg DL_law_4 13 rfl) (v := 2) (by decide) ?_
  refine j_iadd 474 hC (dg DL_law_4 14 rfl) ?_
  refine j_sld 475 (i + 2) hC hX (nI_add i 2) (by omega) hL (dg DL_law_4 15 rfl) ?_
  refine j_Vi (As := [.int (xs (i + 1)), .int (xs (i + 2))]) 476 hC (m_X9_sees (b_sees h (xs (i + 1)) (xs (i + 2)))) kkL_53 k_0 (by decide) ⟨_, _, rfl⟩ ⟨⟨(Nat.le_of_ble_eq_true rfl), (Nat.le_of_ble_eq_true rfl)⟩, (Nat.le_of_ble_eq_true rfl), (Nat.le_of_ble_eq_true rfl)⟩ rfl rfl (Nat.le_of_ble_eq_true rfl) (dg DL_law_4 16 rfl) (fun r τ hw => ?_)
  have hw : wp_X10_sees τ (xs (i + 1)) (xs (i + 2)) (fun r' υ => r' = r ∧ INV υ) := hw
  refine j_aload_n 479 hC 2 (dg DL_law_4 17 rfl) rfl rfl ?_
  refine j_aload_n 480 hC 0 (dg DL_law_4 18 rfl) rfl rfl ?_
  refine j_iload_n 481 hC 3 (dg DL_law_4 19 rfl) rfl rfl ?_
  refine j_iconst 482 hC (dg DL_law_4 20 rfl) (v := 1) (by decide) ?_
  refine j_iadd 483 hC (dg DL_law_4 21 rfl) ?_
  refine j_sld 484 (i + 1) hC hX (nI_add i 1) (by omega) hL (dg DL_law_4 22 rfl) ?_
  refine j_aload_n 485 hC 0 (dg DL_law_4 23 rfl) rfl rfl ?_
  refine j_iload_n 486 hC 3 (dg DL_law_4 24 rfl) rfl rfl ?_
  refine j_iconst 487 hC (dg DL_law_4 25 rfl) (v := 2) (by decide) ?_
  refine j_iadd 488 hC (dg DL_law_4 26 rfl) ?_
  refine j_sld 489 (i + 2) hC hX (nI_add i 2) (by omega) hL (dg DL_law_4 27 rfl) ?_
  refine j_Vi (As := [.int (xs (i + 1)), .int (xs (i + 2))]) 490 hC (m_X10_sees hw) kkL_56 k_95 (by decide) ⟨_, _, rfl⟩ ⟨⟨(Nat.le_of_ble_eq_true rfl), (Nat.le_of_ble_eq_true rfl)⟩, (Nat.le_of_ble_eq_true rfl), (Nat.le_of_ble_eq_true rfl)⟩ rfl rfl (Nat.le_of_ble_eq_true rfl) (dg DL_law_4 28 rfl) (fun r' υ hw => ?_)
  obtain ⟨e, hi2⟩ := hw
  refine j_icmp_eq 493 963 hC (dg DL_law_4 29 rfl) (by decide) (fun _ => ?_) (fun ne => absurd e.symm ne)
  exact rest υ hi2
set_option maxRecDepth 100000 in
set_option maxHeartbeats 4000000 in
theorem lc_10 {X : XT} {B : Nat} (hC : Cx X 4 cL_law RL room_1) {b L : Nat} {xs : Nat → Int32} (hL : L ≤ 2048) (hX : Scr X b L B xs) {i : Nat} (hi : i + 4 ≤ L) {σ : SS} (h : INV σ) (rest : ∀ τ, INV τ → J X 4 B 103 RS 103 2338 τ [(0, .ref b), (1, .ref (B + 0)), (2, .ref (B + 95)), (3, .int (nI i))] 963 []) : J X 4 B 103 RS 103 2338 σ [(0, .ref b), (1, .ref (B + 0)), (2, .ref (B + 95)), (3, .int (nI i))] 498 [] := by
  refine j_aload_n 498 hC 1 (dg DL_law_4 32 rfl) rfl rfl ?_
  refine j_aload_n 499 hC 0 (dg DL_law_4 33 rfl) rfl rfl ?_
  refine j_iload_n 500 hC 3 (dg DL_law_4 34 rfl) rfl rfl ?_
  refine j_iconst 501 hC (dg DL_law_4 35 rfl) (v := 1) (by decide) ?_
  refine j_iadd 502 hC (dg DL_law_4 36 rfl) ?_
  refine j_sld 503 (i + 1) hC hX (nI_add i 1) (by omega) hL (dg DL_law_4 37 rfl) ?_
  refine j_Vi (As := [.int (xs (i + 1))]) 504 hC (m_X9_watched (b_watched h (xs (i + 1)))) kkL_57 k_0 (by decide) ⟨_, _, rfl⟩ ⟨⟨(Nat.le_of_ble_eq_true rfl), (Nat.le_of_ble_eq_true rfl)⟩, (Nat.le_of_ble_eq_true rfl), (Nat.le_of_ble_eq_true rfl)⟩ rfl rfl (Nat.le_of_ble_eq_true rfl) (dg DL_law_4 38 rfl) (fun r τ hw => ?_)
  have hw : wp_X10_watched τ (xs (i + 1)) (fun r' υ => r' = r ∧ INV υ) := hw
  refine j_aload_n 507 hC 2 (dg DL_law_4 39 rfl) rfl rfl ?_
  refine j_aload_n 508 hC 0 (dg DL_law_4 40 rfl) rfl rfl ?_
  refine j_iload_n 509 hC 3 (dg DL_law_4 41 rfl) rfl rfl ?_
  refine j_iconst 510 hC (dg DL_law_4 42 rfl) (v := 1) (by decide) ?_
  refine j_iadd 511 hC (dg DL_law_4 43 rfl) ?_
  refine j_sld 512 (i + 1) hC hX (nI_add i 1) (by omega) hL (dg DL_law_4 44 rfl) ?_
  refine j_Vi (As := [.int (xs (i + 1))]) 513 hC (m_X10_watched hw) kkL_60 k_95 (by decide) ⟨_, _, rfl⟩ ⟨⟨(Nat.le_of_ble_eq_true rfl), (Nat.le_of_ble_eq_true rfl)⟩, (Nat.le_of_ble_eq_true rfl), (Nat.le_of_ble_eq_true rfl)⟩ rfl rfl (Nat.le_of_ble_eq_true rfl) (dg DL_law_4 45 rfl) (fun r' υ hw => ?_)
  obtain ⟨e, hi2⟩ := hw
  refine j_icmp_eq 516 963 hC (dg DL_law_4 46 rfl) (by decide) (fun _ => ?_) (fun ne => absurd e.symm ne)
  exact rest υ hi2
set_option maxRecDepth 100000 in
set_option maxHeartbeats 4000000 in
theorem lc_11 {X : XT} {B : Nat} (hC : Cx X 4 cL_law RL room_1) {b L : Nat} {xs : Nat → Int32} (hL : L ≤ 2048) (hX : Scr X b L B xs) {i : Nat} (hi : i + 4 ≤ L) {σ : SS} (h : INV σ) (rest : ∀ τ, INV τ → J X 4 B 103 RS 103 2338 τ [(0, .ref b), (1, .ref (B + 0)), (2, .ref (B + 95)), (3, .int (nI i))] 963 []) : J X 4 B 103 RS 103 2338 σ [(0, .ref b), (1, .ref (B + 0)), (2, .ref (B + 95)), (3, .int (nI i))] 521 [] := by
  refine j_aload_n 521 hC 1 (dg DL_law_4 49 rfl) rfl rfl ?_
  refine j_aload_n 522 hC 0 (dg DL_law_4 50 rfl) rfl rfl ?_
  refine j_iload_n 523 hC 3 (dg DL_law_4 51 rfl) rfl rfl ?_
  refine j_iconst 524 hC (dg DL_law_4 52 rfl) (v := 1) (by decide) ?_
  refine j_iadd 525 hC (dg DL_law_4 53 rfl) ?_
  refine j_sld 526 (i + 1) hC hX (nI_add i 1) (by omega) hL (dg DL_law_4 54 rfl) ?_
  refine j_Vi (As := [.int (xs (i + 1))]) 527 hC (m_X9_seenBy (b_seenBy h (xs (i + 1)))) kkL_61 k_0 (by decide) ⟨_, _, rfl⟩ ⟨⟨(Nat.le_of_ble_eq_true rfl), (Nat.le_of_ble_eq_true rfl)⟩, (Nat.le_of_ble_eq_true rfl), (Nat.le_of_ble_eq_true rfl)⟩ rfl rfl (Nat.le_of_ble_eq_true rfl) (dg DL_law_4 55 rfl) (fun r τ hw => ?_)
  have hw : wp_X10_seenBy τ (xs (i + 1)) (fun r' υ => r' = r ∧ INV υ) := hw
  refine j_aload_n 530 hC 2 (dg DL_law_4 56 rfl) rfl rfl ?_
  refine j_aload_n 531 hC 0 (dg DL_law_4 57 rfl) rfl rfl ?_
  refine j_iload_n 532 hC 3 (dg DL_law_4 58 rfl) rfl rfl ?_
  refine j_iconst 533 hC (dg DL_law_4 59 rfl) (v := 1) (by decide) ?_
  refine j_iadd 534 hC (dg DL_law_5 0 rfl) ?_
  refine j_sld 535 (i + 1) hC hX (nI_add i 1) (by omega) hL (dg DL_law_5 1 rfl) ?_
  refine j_Vi (As := [.int (xs (i + 1))]) 536 hC (m_X10_seenBy hw) kkL_64 k_95 (by decide) ⟨_, _, rfl⟩ ⟨⟨(Nat.le_of_ble_eq_true rfl), (Nat.le_of_ble_eq_true rfl)⟩, (Nat.le_of_ble_eq_true rfl), (Nat.le_of_ble_eq_true rfl)⟩ rfl rfl (Nat.le_of_ble_eq_true rfl) (dg DL_law_5 2 rfl) (fun r' υ hw => ?_)
  obtain ⟨e, hi2⟩ := hw
  refine j_icmp_eq 539 963 hC (dg DL_law_5 3 rfl) (by decide) (fun _ => ?_) (fun ne => absurd e.symm ne)
  exact rest υ hi2
set_option maxRecDepth 100000 in
set_option maxHeartbeats 4000000 in
theorem lc_12 {X : XT} {B : Nat} (hC : Cx X 4 cL_law RL room_1) {b L : Nat} {xs : Nat → Int32} (hL : L ≤ 2048) (hX : Scr X b L B xs) {i : Nat} (hi : i + 4 ≤ L) {σ : SS} (h : INV σ) (rest : ∀ τ, INV τ → J X 4 B 103 RS 103 2338 τ [(0, .ref b), (1, .ref (B + 0)), (2, .ref (B + 95)), (3, .int (nI i))] 963 []) : J X 4 B 103 RS 103 2338 σ [(0, .ref b), (1, .ref (B + 0)), (2, .ref (B + 95)), (3, .int (nI i))] 544 [] := by
  refine j_aload_n 544 hC 1 (dg DL_law_5 6 rfl) rfl rfl ?_
  refine j_aload_n 545 hC 0 (dg DL_law_5 7 rfl) rfl rfl ?_
  refine j_iload_n 546 hC 3 (dg DL_law_5 8 rfl) rfl rfl ?_
  refine j_iconst 547 hC (dg DL_law_5 9 rfl) (v := 1) (by decide) ?_
  refine j_iadd 548 hC (dg DL_law_5 10 rfl) ?_
  refine j_sld 549 (i + 1) hC hX (nI_add i 1) (by omega) hL (dg DL_law_5 11 rfl) ?_
  refine j_aload_n 550 hC 0 (dg DL_law_5 12 rfl) rfl rfl ?_
  refine j_iload_n 551 hC 3 (dg DL_law_5 13 rfl) rfl rfl ?_
  refine j_iconst 552 hC (dg DL_law_5 14 rfl) (v := 2) (by decide) ?_
  refine j_iadd 553 hC (dg DL_law_5 15 rfl) ?_
  refine j_sld 554 (i + 2) hC hX (nI_add i 2) (by omega) hL (dg DL_law_5 16 rfl) ?_
  refine j_Vi (As := [.int (xs (i + 1)), .int (xs (i + 2))]) 555 hC (m_X9_gapOf (b_gapOf h (xs (i + 1)) (xs (i + 2)))) kkL_65 k_0 (by decide) ⟨_, _, rfl⟩ ⟨⟨(Nat.le_of_ble_eq_true rfl), (Nat.le_of_ble_eq_true rfl)⟩, (Nat.le_of_ble_eq_true rfl), (Nat.le_of_ble_eq_true rfl)⟩ rfl rfl (Nat.le_of_ble_eq_true rfl) (dg DL_law_5 17 rfl) (fun r τ hw => ?_)
  have hw : wp_X10_gapOf τ (xs (i + 1)) (xs (i + 2)) (fun r' υ => r' = r ∧ INV υ) := hw
  refine j_aload_n 558 hC 2 (dg DL_law_5 18 rfl) rfl rfl ?_
  refine j_aload_n 559 hC 0 (dg DL_law_5 19 rfl) rfl rfl ?_
  refine j_iload_n 560 hC 3 (dg DL_law_5 20 rfl) rfl rfl ?_
  refine j_iconst 561 hC (dg DL_law_5 21 rfl) (v := 1) (by decide) ?_
  refine j_iadd 562 hC (dg DL_law_5 22 rfl) ?_
  refine j_sld 563 (i + 1) hC hX (nI_add i 1) (by omega) hL (dg DL_law_5 23 rfl) ?_
  refine j_aload_n 564 hC 0 (dg DL_law_5 24 rfl) rfl rfl ?_
  refine j_iload_n 565 hC 3 (dg DL_law_5 25 rfl) rfl rfl ?_
  refine j_iconst 566 hC (dg DL_law_5 26 rfl) (v := 2) (by decide) ?_
  refine j_iadd 567 hC (dg DL_law_5 27 rfl) ?_
  refine j_sld 568 (i + 2) hC hX (nI_add i 2) (by omega) hL (dg DL_law_5 28 rfl) ?_
  refine j_Vi (As := [.int (xs (i + 1)), .int (xs (i + 2))]) 569 hC (m_X10_gapOf hw) kkL_68 k_95 (by decide) ⟨_, _, rfl⟩ ⟨⟨(Nat.le_of_ble_eq_true rfl), (Nat.le_of_ble_eq_true rfl)⟩, (Nat.le_of_ble_eq_true rfl), (Nat.le_of_ble_eq_true rfl)⟩ rfl rfl (Nat.le_of_ble_eq_true rfl) (dg DL_law_5 29 rfl) (fun r' υ hw => ?_)
  obtain ⟨e, hi2⟩ := hw
  refine j_icmp_eq 572 963 hC (dg DL_law_5 30 rfl) (by decide) (fun _ => ?_) (fun ne => absurd e.symm ne)
  exact rest υ hi2
set_option maxRecDepth 100000 in
set_option maxHeartbeats 4000000 in
theorem lc_13 {X : XT} {B : Nat} (hC : Cx X 4 cL_law RL room_1) {b L : Nat} {xs : Nat → Int32} (hL : L ≤ 2048) (hX : Scr X b L B xs) {i : Nat} (hi : i + 4 ≤ L) {σ : SS} (h : INV σ) (rest : ∀ τ, INV τ → J X 4 B 103 RS 103 2338 τ [(0, .ref b), (1, .ref (B + 0)), (2, .ref (B + 95)), (3, .int (nI i))] 963 []) : J X 4 B 103 RS 103 2338 σ [(0, .ref b), (1, .ref (B + 0)), (2, .ref (B + 95)), (3, .int (nI i))] 577 [] := by
  refine j_aload_n 577 hC 1 (dg DL_law_5 33 rfl) rfl rfl ?_
  refine j_Vi (As := []) 578 hC (m_X9_fewest (b_fewest h)) kkL_69 k_0 (by decide) ⟨_, _, rfl⟩ ⟨⟨(Nat.le_of_ble_eq_true rfl), (Nat.le_of_ble_eq_true rfl)⟩, (Nat.le_of_ble_eq_true rfl), (Nat.le_of_ble_eq_true rfl)⟩ rfl rfl (Nat.le_of_ble_eq_true rfl) (dg DL_law_5 34 rfl) (fun r τ hw => ?_)
  have hw : wp_X10_fewest τ (fun r' υ => r' = r ∧ INV υ) := hw
  refine j_aload_n 581 hC 2 (dg DL_law_5 35 rfl) rfl rfl ?_
  refine j_Vi (As := []) 582 hC (m_X10_fewest hw) kkL_72 k_95 (by decide) ⟨_, _, rfl⟩ ⟨⟨(Nat.le_of_ble_eq_true rfl), (Nat.le_of_ble_eq_true rfl)⟩, (Nat.le_of_ble_eq_true rfl), (Nat.le_of_ble_eq_true rfl)⟩ rfl rfl (Nat.le_of_ble_eq_true rfl) (dg DL_law_5 36 rfl) (fun r' υ hw => ?_)
  obtain ⟨e, hi2⟩ := hw
  refine j_icmp_eq 585 963 hC (dg DL_law_5 37 rfl) (by decide) (fun _ => ?_) (fun ne => absurd e.symm ne)
  exact rest υ hi2
set_option maxRecDepth 100000 in
set_option maxHeartbeats 4000000 in
theorem lc_14 {X : XT} {B : Nat} (hC : Cx X 4 cL_law RL room_1) {b L : Nat} {xs : Nat → Int32} (hL : L ≤ 2048) (hX : Scr X b L B xs) {i : Nat} (hi : i + 4 ≤ L) {σ : SS} (h : INV σ) (rest : ∀ τ, INV τ → J X 4 B 103 RS 103 2338 τ [(0, .ref b), (1, .ref (B + 0)), (2, .ref (B + 95)), (3, .int (nI i))] 963 []) : J X 4 B 103 RS 103 2338 σ [(0, .ref b), (1, .ref (B + 0)), (2, .ref (B + 95)), (3, .int (nI i))] 590 [] := by
  refine j_aload_n 590 hC 1 (dg DL_law_5 40 rfl) rfl rfl ?_
  refine j_Vi (As := []) 591 hC (m_X9_fewestAgain (b_fewestAgain h)) kkL_73 k_0 (by decide) ⟨_, _, rfl⟩ ⟨⟨(Nat.le_of_ble_eq_true rfl), (Nat.le_of_ble_eq_true rfl)⟩, (Nat.le_of_ble_eq_true rfl), (Nat.le_of_ble_eq_true rfl)⟩ rfl rfl (Nat.le_of_ble_eq_true rfl) (dg DL_law_5 41 rfl) (fun r τ hw => ?_)
  have hw : wp_X10_fewestAgain τ (fun r' υ => r' = r ∧ INV υ) := hw
  refine j_aload_n 594 hC 2 (dg DL_law_5 42 rfl) rfl rfl ?_
  refine j_Vi (As := []) 595 hC (m_X10_fewestAgain hw) kkL_76 k_95 (by decide) ⟨_, _, rfl⟩ ⟨⟨(Nat.le_of_ble_eq_true rfl), (Nat.le_of_ble_eq_true rfl)⟩, (Nat.le_of_ble_eq_true rfl), (Nat.le_of_ble_eq_true rfl)⟩ rfl rfl (Nat.le_of_ble_eq_true rfl) (dg DL_law_5 43 rfl) (fun r' υ hw => ?_)
  obtain ⟨e, hi2⟩ := hw
  refine j_icmp_eq 598 963 hC (dg DL_law_5 44 rfl) (by decide) (fun _ => ?_) (fun ne => absurd e.symm ne)
  exact rest υ hi2
set_option maxRecDepth 100000 in
set_option maxHeartbeats 4000000 in
theorem lc_15 {X : XT} {B : Nat} (hC : Cx X 4 cL_law RL room_1) {b L : Nat} {xs : Nat → Int32} (hL : L ≤ 2048) (hX : Scr X b L B xs) {i : Nat} (hi : i + 4 ≤ L) {σ : SS} (h : INV σ) (rest : ∀ τ, INV τ → J X 4 B 103 RS 103 2338 τ [(0, .ref b), (1, .ref (B + 0)), (2, .ref (B + 95)), (3, .int (nI i))] 963 []) : J X 4 B 103 RS 103 2338 σ [(0, .ref b), (1, .ref (B + 0)), (2, .ref (B + 95)), (3, .int (nI i))] 603 [] := by
  refine j_aload_n 603 hC 1 (dg DL_law_5 47 rfl) rfl rfl ?_
  refine j_Vi (As := []) 604 hC (m_X9_watches (b_watches h)) kkL_77 k_0 (by decide) ⟨_, _, rfl⟩ ⟨⟨(Nat.le_of_ble_eq_true rfl), (Nat.le_of_ble_eq_true rfl)⟩, (Nat.le_of_ble_eq_true rfl), (Nat.le_of_ble_eq_true rfl)⟩ rfl rfl (Nat.le_of_ble_eq_true rfl) (dg DL_law_5 48 rfl) (fun r τ hw => ?_)
  have hw : wp_X10_watches τ (fun r' υ => r' = r ∧ INV υ) := hw
  refine j_aload_n 607 hC 2 (dg DL_law_5 49 rfl) rfl rfl ?_
  refine j_Vi (As := []) 608 hC (m_X10_watches hw) kkL_80 k_95 (by decide) ⟨_, _, rfl⟩ ⟨⟨(Nat.le_of_ble_eq_true rfl), (Nat.le_of_ble_eq_true rfl)⟩, (Nat.le_of_ble_eq_true rfl), (Nat.le_of_ble_eq_true rfl)⟩ rfl rfl (Nat.le_of_ble_eq_true rfl) (dg DL_law_5 50 rfl) (fun r' υ hw => ?_)
  obtain ⟨e, hi2⟩ := hw
  refine j_icmp_eq 611 963 hC (dg DL_law_5 51 rfl) (by decide) (fun _ => ?_) (fun ne => absurd e.symm ne)
  exact rest υ hi2
set_option maxRecDepth 100000 in
set_option maxHeartbeats 4000000 in
theorem lc_16 {X : XT} {B : Nat} (hC : Cx X 4 cL_law RL room_1) {b L : Nat} {xs : Nat → Int32} (hL : L ≤ 2048) (hX : Scr X b L B xs) {i : Nat} (hi : i + 4 ≤ L) {σ : SS} (h : INV σ) (rest : ∀ τ, INV τ → J X 4 B 103 RS 103 2338 τ [(0, .ref b), (1, .ref (B + 0)), (2, .ref (B + 95)), (3, .int (nI i))] 963 []) : J X 4 B 103 RS 103 2338 σ [(0, .ref b), (1, .ref (B + 0)), (2, .ref (B + 95)), (3, .int (nI i))] 616 [] := by
  refine j_aload_n 616 hC 1 (dg DL_law_5 54 rfl) rfl rfl ?_
  refine j_aload_n 617 hC 0 (dg DL_law_5 55 rfl) rfl rfl ?_
  refine j_iload_n 618 hC 3 (dg DL_law_5 56 rfl) rfl rfl ?_
  refine j_iconst 619 hC (dg DL_law_5 57 rfl) (v := 1) (by decide) ?_
  refine j_iadd 620 hC (dg DL_law_5 58 rfl) ?_
  refine j_sld 621 (i + 1) hC hX (nI_add i 1) (by omega) hL (dg DL_law_5 59 rfl) ?_
  refine j_Vi (As := [.int (xs (i + 1))]) 622 hC (m_X9_isFull (b_isFull h (xs (i + 1)))) kkL_81 k_0 (by decide) ⟨_, _, rfl⟩ ⟨⟨(Nat.le_of_ble_eq_true rfl), (Nat.le_of_ble_eq_true rfl)⟩, (Nat.le_of_ble_eq_true rfl), (Nat.le_of_ble_eq_true rfl)⟩ rfl rfl (Nat.le_of_ble_eq_true rfl) (dg DL_law_6 0 rfl) (fun r τ hw => ?_)
  have hw : wp_X10_isFull τ (xs (i + 1)) (fun r' υ => r' = r ∧ INV υ) := hw
  refine j_aload_n 625 hC 2 (dg DL_law_6 1 rfl) rfl rfl ?_
  refine j_aload_n 626 hC 0 (dg DL_law_6 2 rfl) rfl rfl ?_
  refine j_iload_n 627 hC 3 (dg DL_law_6 3 rfl) rfl rfl ?_
  refine j_iconst 628 hC (dg DL_law_6 4 rfl) (v := 1) (by decide) ?_
  refine j_iadd 629 hC (dg DL_law_6 5 rfl) ?_
  refine j_sld 630 (i + 1) hC hX (nI_add i 1) (by omega) hL (dg DL_law_6 6 rfl) ?_
  refine j_Vi (As := [.int (xs (i + 1))]) 631 hC (m_X10_isFull hw) kkL_84 k_95 (by decide) ⟨_, _, rfl⟩ ⟨⟨(Nat.le_of_ble_eq_true rfl), (Nat.le_of_ble_eq_true rfl)⟩, (Nat.le_of_ble_eq_true rfl), (Nat.le_of_ble_eq_true rfl)⟩ rfl rfl (Nat.le_of_ble_eq_true rfl) (dg DL_law_6 7 rfl) (fun r' υ hw => ?_)
  obtain ⟨e, hi2⟩ := hw
  refine j_icmp_eq 634 963 hC (dg DL_law_6 8 rfl) (by decide) (fun _ => ?_) (fun ne => absurd e.symm ne)
  exact rest υ hi2
set_option maxRecDepth 100000 in
set_option maxHeartbeats 4000000 in
theorem lc_17 {X : XT} {B : Nat} (hC : Cx X 4 cL_law RL room_1) {b L : Nat} {xs : Nat → Int32} (hL : L ≤ 2048) (hX : Scr X b L B xs) {i : Nat} (hi : i + 4 ≤ L) {σ : SS} (h : INV σ) (rest : ∀ τ, INV τ → J X 4 B 103 RS 103 2338 τ [(0, .ref b), (1, .ref (B + 0)), (2, .ref (B + 95)), (3, .int (nI i))] 963 []) : J X 4 B 103 RS 103 2338 σ [(0, .ref b), (1, .ref (B + 0)), (2, .ref (B + 95)), (3, .int (nI i))] 639 [] := by
  refine j_aload_n 639 hC 1 (dg DL_law_6 11 rfl) rfl rfl ?_
  refine j_Vi (As := []) 640 hC (m_X9_spare (b_spare h)) kkL_85 k_0 (by decide) ⟨_, _, rfl⟩ ⟨⟨(Nat.le_of_ble_eq_true rfl), (Nat.le_of_ble_eq_true rfl)⟩, (Nat.le_of_ble_eq_true rfl), (Nat.le_of_ble_eq_true rfl)⟩ rfl rfl (Nat.le_of_ble_eq_true rfl) (dg DL_law_6 12 rfl) (fun r τ hw => ?_)
  have hw : wp_X10_spare τ (fun r' υ => r' = r ∧ INV υ) := hw
  refine j_aload_n 643 hC 2 (dg DL_law_6 13 rfl) rfl rfl ?_
  refine j_Vi (As := []) 644 hC (m_X10_spare hw) kkL_88 k_95 (by decide) ⟨_, _, rfl⟩ ⟨⟨(Nat.le_of_ble_eq_true rfl), (Nat.le_of_ble_eq_true rfl)⟩, (Nat.le_of_ble_eq_true rfl), (Nat.le_of_ble_eq_true rfl)⟩ rfl rfl (Nat.le_of_ble_eq_true rfl) (dg DL_law_6 14 rfl) (fun r' υ hw => ?_)
  obtain ⟨e, hi2⟩ := hw
  refine j_icmp_eq 647 963 hC (dg DL_law_6 15 rfl) (by decide) (fun _ => ?_) (fun ne => absurd e.symm ne)
  exact rest υ hi2
set_option maxRecDepth 100000 in
set_option maxHeartbeats 4000000 in
theorem lc_18 {X : XT} {B : Nat} (hC : Cx X 4 cL_law RL room_1) {b L : Nat} {xs : Nat → Int32} (hL : L ≤ 2048) (hX : Scr X b L B xs) {i : Nat} (hi : i + 4 ≤ L) {σ : SS} (h : INV σ) (rest : ∀ τ, INV τ → J X 4 B 103 RS 103 2338 τ [(0, .ref b), (1, .ref (B + 0)), (2, .ref (B + 95)), (3, .int (nI i))] 963 []) : J X 4 B 103 RS 103 2338 σ [(0, .ref b), (1, .ref (B + 0)), (2, .ref (B + 95)), (3, .int (nI i))] 652 [] := by
  refine j_aload_n 652 hC 1 (dg DL_law_6 18 rfl) rfl rfl ?_
  refine j_Vi (As := []) 653 hC (m_X9_next (b_next h)) kkL_89 k_0 (by decide) ⟨_, _, rfl⟩ ⟨⟨(Nat.le_of_ble_eq_true rfl), (Nat.le_of_ble_eq_true rfl)⟩, (Nat.le_of_ble_eq_true rfl), (Nat.le_of_ble_eq_true rfl)⟩ rfl rfl (Nat.le_of_ble_eq_true rfl) (dg DL_law_6 19 rfl) (fun r τ hw => ?_)
  have hw : wp_X10_next τ (fun r' υ => r' = r ∧ INV υ) := hw
  refine j_aload_n 656 hC 2 (dg DL_law_6 20 rfl) rfl rfl ?_
  refine j_Vi (As := []) 657 hC (m_X10_next hw) kkL_92 k_95 (by decide) ⟨_, _, rfl⟩ ⟨⟨(Nat.le_of_ble_eq_true rfl), (Nat.le_of_ble_eq_true rfl)⟩, (Nat.le_of_ble_eq_true rfl), (Nat.le_of_ble_eq_true rfl)⟩ rfl rfl (Nat.le_of_ble_eq_true rfl) (dg DL_law_6 21 rfl) (fun r' υ hw => ?_)
  obtain ⟨e, hi2⟩ := hw
  refine j_icmp_eq 660 963 hC (dg DL_law_6 22 rfl) (by decide) (fun _ => ?_) (fun ne => absurd e.symm ne)
  exact rest υ hi2
set_option maxRecDepth 100000 in
set_option maxHeartbeats 4000000 in
theorem lc_19 {X : XT} {B : Nat} (hC : Cx X 4 cL_law RL room_1) {b L : Nat} {xs : Nat → Int32} (hL : L ≤ 2048) (hX : Scr X b L B xs) {i : Nat} (hi : i + 4 ≤ L) {σ : SS} (h : INV σ) (rest : ∀ τ, INV τ → J X 4 B 103 RS 103 2338 τ [(0, .ref b), (1, .ref (B + 0)), (2, .ref (B + 95)), (3, .int (nI i))] 963 []) : J X 4 B 103 RS 103 2338 σ [(0, .ref b), (1, .ref (B + 0)), (2, .ref (B + 95)), (3, .int (nI i))] 665 [] := by
  refine j_aload_n 665 hC 1 (dg DL_law_6 25 rfl) rfl rfl ?_
  refine j_Vi (As := []) 666 hC (m_X9_greedy (b_greedy h)) kkL_93 k_0 (by decide) ⟨_, _, rfl⟩ ⟨⟨(Nat.le_of_ble_eq_true rfl), (Nat.le_of_ble_eq_true rfl)⟩, (Nat.le_of_ble_eq_true rfl), (Nat.le_of_ble_eq_true rfl)⟩ rfl rfl (Nat.le_of_ble_eq_true rfl) (dg DL_law_6 26 rfl) (fun r τ hw => ?_)
  have hw : wp_X10_greedy τ (fun r' υ => r' = r ∧ INV υ) := hw
  refine j_aload_n 669 hC 2 (dg DL_law_6 27 rfl) rfl rfl ?_
  refine j_Vi (As := []) 670 hC (m_X10_greedy hw) kkL_96 k_95 (by decide) ⟨_, _, rfl⟩ ⟨⟨(Nat.le_of_ble_eq_true rfl), (Nat.le_of_ble_eq_true rfl)⟩, (Nat.le_of_ble_eq_true rfl), (Nat.le_of_ble_eq_true rfl)⟩ rfl rfl (Nat.le_of_ble_eq_true rfl) (dg DL_law_6 28 rfl) (fun r' υ hw => ?_)
  obtain ⟨e, hi2⟩ := hw
  refine j_icmp_eq 673 963 hC (dg DL_law_6 29 rfl) (by decide) (fun _ => ?_) (fun ne => absurd e.symm ne)
  exact rest υ hi2
set_option maxRecDepth 100000 in
set_option maxHeartbeats 4000000 in
theorem lc_20 {X : XT} {B : Nat} (hC : Cx X 4 cL_law RL room_1) {b L : Nat} {xs : Nat → Int32} (hL : L ≤ 2048) (hX : Scr X b L B xs) {i : Nat} (hi : i + 4 ≤ L) {σ : SS} (h : INV σ) (rest : ∀ τ, INV τ → J X 4 B 103 RS 103 2338 τ [(0, .ref b), (1, .ref (B + 0)), (2, .ref (B + 95)), (3, .int (nI i))] 963 []) : J X 4 B 103 RS 103 2338 σ [(0, .ref b), (1, .ref (B + 0)), (2, .ref (B + 95)), (3, .int (nI i))] 678 [] := by
  refine j_aload_n 678 hC 1 (dg DL_law_6 32 rfl) rfl rfl ?_
  refine j_aload_n 679 hC 0 (dg DL_law_6 33 rfl) rfl rfl ?_
  refine j_iload_n 680 hC 3 (dg DL_law_6 34 rfl) rfl rfl ?_
  refine j_iconst 681 hC (dg DL_law_6 35 rfl) (v := 1) (by decide) ?_
  refine j_iadd 682 hC (dg DL_law_6 36 rfl) ?_
  refine j_sld 683 (i + 1) hC hX (nI_add i 1) (by omega) hL (dg DL_law_6 37 rfl) ?_
  refine j_Vi (As := [.int (xs (i + 1))]) 684 hC (m_X9_wouldNeed (b_wouldNeed h (xs (i + 1)))) kkL_97 k_0 (by decide) ⟨_, _, rfl⟩ ⟨⟨(Nat.le_of_ble_eq_true rfl), (Nat.le_of_ble_eq_true rfl)⟩, (Nat.le_of_ble_eq_true rfl), (Nat.le_of_ble_eq_true rfl)⟩ rfl rfl (Nat.le_of_ble_eq_true rfl) (dg DL_law_6 38 rfl) (fun r τ hw => ?_)
  have hw : wp_X10_wouldNeed τ (xs (i + 1)) (fun r' υ => r' = r ∧ INV υ) := hw
  refine j_aload_n 687 hC 2 (dg DL_law_6 39 rfl) rfl rfl ?_
  refine j_aload_n 688 hC 0 (dg DL_law_6 40 rfl) rfl rfl ?_
  refine j_iload_n 689 hC 3 (dg DL_law_6 41 rfl) rfl rfl ?_
  refine j_iconst 690 hC (dg DL_law_6 42 rfl) (v := 1) (by decide) ?_
  refine j_iadd 691 hC (dg DL_law_6 43 rfl) ?_
  refine j_sld 692 (i + 1) hC hX (nI_add i 1) (by omega) hL (dg DL_law_6 44 rfl) ?_
  refine j_Vi (As := [.int (xs (i + 1))]) 693 hC (m_X10_wouldNeed hw) kkL_100 k_95 (by decide) ⟨_, _, rfl⟩ ⟨⟨(Nat.le_of_ble_eq_true rfl), (Nat.le_of_ble_eq_true rfl)⟩, (Nat.le_of_ble_eq_true rfl), (Nat.le_of_ble_eq_true rfl)⟩ rfl rfl (Nat.le_of_ble_eq_true rfl) (dg DL_law_6 45 rfl) (fun r' υ hw => ?_)
  obtain ⟨e, hi2⟩ := hw
  refine j_icmp_eq 696 963 hC (dg DL_law_6 46 rfl) (by decide) (fun _ => ?_) (fun ne => absurd e.symm ne)
  exact rest υ hi2
set_option maxRecDepth 100000 in
set_option maxHeartbeats 4000000 in
theorem lc_21 {X : XT} {B : Nat} (hC : Cx X 4 cL_law RL room_1) {b L : Nat} {xs : Nat → Int32} (hL : L ≤ 2048) (hX : Scr X b L B xs) {i : Nat} (hi : i + 4 ≤ L) {σ : SS} (h : INV σ) (rest : ∀ τ, INV τ → J X 4 B 103 RS 103 2338 τ [(0, .ref b), (1, .ref (B + 0)), (2, .ref (B + 95)), (3, .int (nI i))] 963 []) : J X 4 B 103 RS 103 2338 σ [(0, .ref b), (1, .ref (B + 0)), (2, .ref (B + 95)), (3, .int (nI i))] 701 [] := by
  refine j_aload_n 701 hC 1 (dg DL_law_6 49 rfl) rfl rfl ?_
  refine j_aload_n 702 hC 0 (dg DL_law_6 50 rfl) rfl rfl ?_
  refine j_iload_n 703 hC 3 (dg DL_law_6 51 rfl) rfl rfl ?_
  refine j_iconst 704 hC (dg DL_law_6 52 rfl) (v := 1) (by decide) ?_
  refine j_iadd 705 hC (dg DL_law_6 53 rfl) ?_
  refine j_sld 706 (i + 1) hC hX (nI_add i 1) (by omega) hL (dg DL_law_6 54 rfl) ?_
  refine j_Vi (As := [.int (xs (i + 1))]) 707 hC (m_X9_wouldTurn (b_wouldTurn h (xs (i + 1)))) kkL_101 k_0 (by decide) ⟨_, _, rfl⟩ ⟨⟨(Nat.le_of_ble_eq_true rfl), (Nat.le_of_ble_eq_true rfl)⟩, (Nat.le_of_ble_eq_true rfl), (Nat.le_of_ble_eq_true rfl)⟩ rfl rfl (Nat.le_of_ble_eq_true rfl) (dg DL_law_6 55 rfl) (fun r τ hw => ?_)
  have hw : wp_X10_wouldTurn τ (xs (i + 1)) (fun r' υ => r' = r ∧ INV υ) := hw
  refine j_aload_n 710 hC 2 (dg DL_law_6 56 rfl) rfl rfl ?_
  refine j_aload_n 711 hC 0 (dg DL_law_6 57 rfl) rfl rfl ?_
  refine j_iload_n 712 hC 3 (dg DL_law_6 58 rfl) rfl rfl ?_
  refine j_iconst 713 hC (dg DL_law_6 59 rfl) (v := 1) (by decide) ?_
  refine j_iadd 714 hC (dg DL_law_7 0 rfl) ?_
  refine j_sld 715 (i + 1) hC hX (nI_add i 1) (by omega) hL (dg DL_law_7 1 rfl) ?_
  refine j_Vi (As := [.int (xs (i + 1))]) 716 hC (m_X10_wouldTurn hw) kkL_104 k_95 (by decide) ⟨_, _, rfl⟩ ⟨⟨(Nat.le_of_ble_eq_true rfl), (Nat.le_of_ble_eq_true rfl)⟩, (Nat.le_of_ble_eq_true rfl), (Nat.le_of_ble_eq_true rfl)⟩ rfl rfl (Nat.le_of_ble_eq_true rfl) (dg DL_law_7 2 rfl) (fun r' υ hw => ?_)
  obtain ⟨e, hi2⟩ := hw
  refine j_icmp_eq 719 963 hC (dg DL_law_7 3 rfl) (by decide) (fun _ => ?_) (fun ne => absurd e.symm ne)
  exact rest υ hi2
set_option maxRecDepth 100000 in
set_option maxHeartbeats 4000000 in
theorem lc_22 {X : XT} {B : Nat} (hC : Cx X 4 cL_law RL room_1) {b L : Nat} {xs : Nat → Int32} (hL : L ≤ 2048) (hX : Scr X b L B xs) {i : Nat} (hi : i + 4 ≤ L) {σ : SS} (h : INV σ) (rest : ∀ τ, INV τ → J X 4 B 103 RS 103 2338 τ [(0, .ref b), (1, .ref (B + 0)), (2, .ref (B + 95)), (3, .int (nI i))] 963 []) : J X 4 B 103 RS 103 2338 σ [(0, .ref b), (1, .ref (B + 0)), (2, .ref (B + 95)), (3, .int (nI i))] 724 [] := by
  refine j_aload_n 724 hC 1 (dg DL_law_7 6 rfl) rfl rfl ?_
  refine j_aload_n 725 hC 0 (dg DL_law_7 7 rfl) rfl rfl ?_
  refine j_iload_n 726 hC 3 (dg DL_law_7 8 rfl) rfl rfl ?_
  refine j_iconst 727 hC (dg DL_law_7 9 rfl) (v := 1) (by decide) ?_
  refine j_iadd 728 hC (dg DL_law_7 10 rfl) ?_
  refine j_sld 729 (i + 1) hC hX (nI_add i 1) (by omega) hL (dg DL_law_7 11 rfl) ?_
  refine j_aload_n 730 hC 0 (dg DL_law_7 12 rfl) rfl rfl ?_
  refine j_iload_n 731 hC 3 (dg DL_law_7 13 rfl) rfl rfl ?_
  refine j_iconst 732 hC (dg DL_law_7 14 rfl) (v := 2) (by decide) ?_
  refine j_iadd 733 hC (dg DL_law_7 15 rfl) ?_
  refine j_sld 734 (i + 2) hC hX (nI_add i 2) (by omega) hL (dg DL_law_7 16 rfl) ?_
  refine j_Vi (As := [.int (xs (i + 1)), .int (xs (i + 2))]) 735 hC (m_X9_ranked (b_ranked h (xs (i + 1)) (xs (i + 2)))) kkL_105 k_0 (by decide) ⟨_, _, rfl⟩ ⟨⟨(Nat.le_of_ble_eq_true rfl), (Nat.le_of_ble_eq_true rfl)⟩, (Nat.le_of_ble_eq_true rfl), (Nat.le_of_ble_eq_true rfl)⟩ rfl rfl (Nat.le_of_ble_eq_true rfl) (dg DL_law_7 17 rfl) (fun r τ hw => ?_)
  have hw : wp_X10_ranked τ (xs (i + 1)) (xs (i + 2)) (fun r' υ => r' = r ∧ INV υ) := hw
  refine j_aload_n 738 hC 2 (dg DL_law_7 18 rfl) rfl rfl ?_
  refine j_aload_n 739 hC 0 (dg DL_law_7 19 rfl) rfl rfl ?_
  refine j_iload_n 740 hC 3 (dg DL_law_7 20 rfl) rfl rfl ?_
  refine j_iconst 741 hC (dg DL_law_7 21 rfl) (v := 1) (by decide) ?_
  refine j_iadd 742 hC (dg DL_law_7 22 rfl) ?_
  refine j_sld 743 (i + 1) hC hX (nI_add i 1) (by omega) hL (dg DL_law_7 23 rfl) ?_
  refine j_aload_n 744 hC 0 (dg DL_law_7 24 rfl) rfl rfl ?_
  refine j_iload_n 745 hC 3 (dg DL_law_7 25 rfl) rfl rfl ?_
  refine j_iconst 746 hC (dg DL_law_7 26 rfl) (v := 2) (by decide) ?_
  refine j_iadd 747 hC (dg DL_law_7 27 rfl) ?_
  refine j_sld 748 (i + 2) hC hX (nI_add i 2) (by omega) hL (dg DL_law_7 28 rfl) ?_
  refine j_Vi (As := [.int (xs (i + 1)), .int (xs (i + 2))]) 749 hC (m_X10_ranked hw) kkL_108 k_95 (by decide) ⟨_, _, rfl⟩ ⟨⟨(Nat.le_of_ble_eq_true rfl), (Nat.le_of_ble_eq_true rfl)⟩, (Nat.le_of_ble_eq_true rfl), (Nat.le_of_ble_eq_true rfl)⟩ rfl rfl (Nat.le_of_ble_eq_true rfl) (dg DL_law_7 29 rfl) (fun r' υ hw => ?_)
  obtain ⟨e, hi2⟩ := hw
  refine j_icmp_eq 752 963 hC (dg DL_law_7 30 rfl) (by decide) (fun _ => ?_) (fun ne => absurd e.symm ne)
  exact rest υ hi2
set_option maxRecDepth 100000 in
set_option maxHeartbeats 4000000 in
theorem lc_23 {X : XT} {B : Nat} (hC : Cx X 4 cL_law RL room_1) {b L : Nat} {xs : Nat → Int32} (hL : L ≤ 2048) (hX : Scr X b L B xs) {i : Nat} (hi : i + 4 ≤ L) {σ : SS} (h : INV σ) (rest : ∀ τ, INV τ → J X 4 B 103 RS 103 2338 τ [(0, .ref b), (1, .ref (B + 0)), (2, .ref (B + 95)), (3, .int (nI i))] 963 []) : J X 4 B 103 RS 103 2338 σ [(0, .ref b), (1, .ref (B + 0)), (2, .ref (B + 95)), (3, .int (nI i))] 757 [] := by
  refine j_aload_n 757 hC 1 (dg DL_law_7 33 rfl) rfl rfl ?_
  refine j_aload_n 758 hC 0 (dg DL_law_7 34 rfl) rfl rfl ?_
  refine j_iload_n 759 hC 3 (dg DL_law_7 35 rfl) rfl rfl ?_
  refine j_iconst 760 hC (dg DL_law_7 36 rfl) (v := 1) (by decide) ?_
  refine j_iadd 761 hC (dg DL_law_7 37 rfl) ?_
  refine j_sld 762 (i + 1) hC hX (nI_add i 1) (by omega) hL (dg DL_law_7 38 rfl) ?_
  refine j_Vi (As := [.int (xs (i + 1))]) 763 hC (m_X9_describe (b_describe h (xs (i + 1)))) kkL_109 k_0 (by decide) ⟨_, _, rfl⟩ ⟨⟨(Nat.le_of_ble_eq_true rfl), (Nat.le_of_ble_eq_true rfl)⟩, (Nat.le_of_ble_eq_true rfl), (Nat.le_of_ble_eq_true rfl)⟩ rfl rfl (Nat.le_of_ble_eq_true rfl) (dg DL_law_7 39 rfl) (fun r τ hw => ?_)
  have hw : wp_X10_describe τ (xs (i + 1)) (fun r' υ => r' = r ∧ INV υ) := hw
  refine j_aload_n 766 hC 2 (dg DL_law_7 40 rfl) rfl rfl ?_
  refine j_aload_n 767 hC 0 (dg DL_law_7 41 rfl) rfl rfl ?_
  refine j_iload_n 768 hC 3 (dg DL_law_7 42 rfl) rfl rfl ?_
  refine j_iconst 769 hC (dg DL_law_7 43 rfl) (v := 1) (by decide) ?_
  refine j_iadd 770 hC (dg DL_law_7 44 rfl) ?_
  refine j_sld 771 (i + 1) hC hX (nI_add i 1) (by omega) hL (dg DL_law_7 45 rfl) ?_
  refine j_Vi (As := [.int (xs (i + 1))]) 772 hC (m_X10_describe hw) kkL_112 k_95 (by decide) ⟨_, _, rfl⟩ ⟨⟨(Nat.le_of_ble_eq_true rfl), (Nat.le_of_ble_eq_true rfl)⟩, (Nat.le_of_ble_eq_true rfl), (Nat.le_of_ble_eq_true rfl)⟩ rfl rfl (Nat.le_of_ble_eq_true rfl) (dg DL_law_7 46 rfl) (fun r' υ hw => ?_)
  obtain ⟨e, hi2⟩ := hw
  refine j_icmp_eq 775 963 hC (dg DL_law_7 47 rfl) (by decide) (fun _ => ?_) (fun ne => absurd e.symm ne)
  exact rest υ hi2
set_option maxRecDepth 100000 in
set_option maxHeartbeats 4000000 in
theorem lc_24 {X : XT} {B : Nat} (hC : Cx X 4 cL_law RL room_1) {b L : Nat} {xs : Nat → Int32} (hL : L ≤ 2048) (hX : Scr X b L B xs) {i : Nat} (hi : i + 4 ≤ L) {σ : SS} (h : INV σ) (rest : ∀ τ, INV τ → J X 4 B 103 RS 103 2338 τ [(0, .ref b), (1, .ref (B + 0)), (2, .ref (B + 95)), (3, .int (nI i))] 963 []) : J X 4 B 103 RS 103 2338 σ [(0, .ref b), (1, .ref (B + 0)), (2, .ref (B + 95)), (3, .int (nI i))] 780 [] := by
  refine j_aload_n 780 hC 1 (dg DL_law_7 50 rfl) rfl rfl ?_
  refine j_Vi (As := []) 781 hC (m_X9_show (b_show h)) kkL_113 k_0 (by decide) ⟨_, _, rfl⟩ ⟨⟨(Nat.le_of_ble_eq_true rfl), (Nat.le_of_ble_eq_true rfl)⟩, (Nat.le_of_ble_eq_true rfl), (Nat.le_of_ble_eq_true rfl)⟩ rfl rfl (Nat.le_of_ble_eq_true rfl) (dg DL_law_7 51 rfl) (fun r τ hw => ?_)
  have hw : wp_X10_show τ (fun r' υ => r' = r ∧ INV υ) := hw
  refine j_aload_n 784 hC 2 (dg DL_law_7 52 rfl) rfl rfl ?_
  refine j_Vi (As := []) 785 hC (m_X10_show hw) kkL_116 k_95 (by decide) ⟨_, _, rfl⟩ ⟨⟨(Nat.le_of_ble_eq_true rfl), (Nat.le_of_ble_eq_true rfl)⟩, (Nat.le_of_ble_eq_true rfl), (Nat.le_of_ble_eq_true rfl)⟩ rfl rfl (Nat.le_of_ble_eq_true rfl) (dg DL_law_7 53 rfl) (fun r' υ hw => ?_)
  obtain ⟨e, hi2⟩ := hw
  refine j_icmp_eq 788 963 hC (dg DL_law_7 54 rfl) (by decide) (fun _ => ?_) (fun ne => absurd e.symm ne)
  exact rest υ hi2
set_option maxRecDepth 100000 in
set_option maxHeartbeats 4000000 in
theorem lc_25 {X : XT} {B : Nat} (hC : Cx X 4 cL_law RL room_1) {b L : Nat} {xs : Nat → Int32} (hL : L ≤ 2048) (hX : Scr X b L B xs) {i : Nat} (hi : i + 4 ≤ L) {σ : SS} (h : INV σ) (rest : ∀ τ, INV τ → J X 4 B 103 RS 103 2338 τ [(0, .ref b), (1, .ref (B + 0)), (2, .ref (B + 95)), (3, .int (nI i))] 963 []) : J X 4 B 103 RS 103 2338 σ [(0, .ref b), (1, .ref (B + 0)), (2, .ref (B + 95)), (3, .int (nI i))] 793 [] := by
  refine j_aload_n 793 hC 1 (dg DL_law_7 57 rfl) rfl rfl ?_
  refine j_aload_n 794 hC 0 (dg DL_law_7 58 rfl) rfl rfl ?_
  refine j_iload_n 795 hC 3 (dg DL_law_7 59 rfl) rfl rfl ?_
  refine j_iconst 796 hC (dg DL_law_8 0 rfl) (v := 1) (by decide) ?_
  refine j_iadd 797 hC (dg DL_law_8 1 rfl) ?_
  refine j_sld 798 (i + 1) hC hX (nI_add i 1) (by omega) hL (dg DL_law_8 2 rfl) ?_
  refine j_Vi (As := [.int (xs (i + 1))]) 799 hC (m_X9_sign (b_sign h (xs (i + 1)))) kkL_117 k_0 (by decide) ⟨_, _, rfl⟩ ⟨⟨(Nat.le_of_ble_eq_true rfl), (Nat.le_of_ble_eq_true rfl)⟩, (Nat.le_of_ble_eq_true rfl), (Nat.le_of_ble_eq_true rfl)⟩ rfl rfl (Nat.le_of_ble_eq_true rfl) (dg DL_law_8 3 rfl) (fun r τ hw => ?_)
  have hw : wp_X10_sign τ (xs (i + 1)) (fun r' υ => r' = r ∧ INV υ) := hw
  refine j_aload_n 802 hC 2 (dg DL_law_8 4 rfl) rfl rfl ?_
  refine j_aload_n 803 hC 0 (dg DL_law_8 5 rfl) rfl rfl ?_
  refine j_iload_n 804 hC 3 (dg DL_law_8 6 rfl) rfl rfl ?_
  refine j_iconst 805 hC (dg DL_law_8 7 rfl) (v := 1) (by decide) ?_
  refine j_iadd 806 hC (dg DL_law_8 8 rfl) ?_
  refine j_sld 807 (i + 1) hC hX (nI_add i 1) (by omega) hL (dg DL_law_8 9 rfl) ?_
  refine j_Vi (As := [.int (xs (i + 1))]) 808 hC (m_X10_sign hw) kkL_120 k_95 (by decide) ⟨_, _, rfl⟩ ⟨⟨(Nat.le_of_ble_eq_true rfl), (Nat.le_of_ble_eq_true rfl)⟩, (Nat.le_of_ble_eq_true rfl), (Nat.le_of_ble_eq_true rfl)⟩ rfl rfl (Nat.le_of_ble_eq_true rfl) (dg DL_law_8 10 rfl) (fun r' υ hw => ?_)
  obtain ⟨e, hi2⟩ := hw
  refine j_icmp_eq 811 963 hC (dg DL_law_8 11 rfl) (by decide) (fun _ => ?_) (fun ne => absurd e.symm ne)
  exact rest υ hi2
set_option maxRecDepth 100000 in
set_option maxHeartbeats 4000000 in
theorem lc_26 {X : XT} {B : Nat} (hC : Cx X 4 cL_law RL room_1) {b L : Nat} {xs : Nat → Int32} (hL : L ≤ 2048) (hX : Scr X b L B xs) {i : Nat} (hi : i + 4 ≤ L) {σ : SS} (h : INV σ) (rest : ∀ τ, INV τ → J X 4 B 103 RS 103 2338 τ [(0, .ref b), (1, .ref (B + 0)), (2, .ref (B + 95)), (3, .int (nI i))] 963 []) : J X 4 B 103 RS 103 2338 σ [(0, .ref b), (1, .ref (B + 0)), (2, .ref (B + 95)), (3, .int (nI i))] 816 [] := by
  refine j_aload_n 816 hC 1 (dg DL_law_8 14 rfl) rfl rfl ?_
  refine j_aload_n 817 hC 0 (dg DL_law_8 15 rfl) rfl rfl ?_
  refine j_iload_n 818 hC 3 (dg DL_law_8 16 rfl) rfl rfl ?_
  refine j_iconst 819 hC (dg DL_law_8 17 rfl) (v := 1) (by decide) ?_
  refine j_iadd 820 hC (dg DL_law_8 18 rfl) ?_
  refine j_sld 821 (i + 1) hC hX (nI_add i 1) (by omega) hL (dg DL_law_8 19 rfl) ?_
  refine j_Vi (As := [.int (xs (i + 1))]) 822 hC (m_X9_append (b_append h (xs (i + 1)))) kkL_121 k_0 (by decide) ⟨_, _, rfl⟩ ⟨⟨(Nat.le_of_ble_eq_true rfl), (Nat.le_of_ble_eq_true rfl)⟩, (Nat.le_of_ble_eq_true rfl), (Nat.le_of_ble_eq_true rfl)⟩ rfl rfl (Nat.le_of_ble_eq_true rfl) (dg DL_law_8 20 rfl) (fun r τ hw => ?_)
  have hw : wp_X10_append τ (xs (i + 1)) (fun r' υ => r' = r ∧ INV υ) := hw
  refine j_aload_n 825 hC 2 (dg DL_law_8 21 rfl) rfl rfl ?_
  refine j_aload_n 826 hC 0 (dg DL_law_8 22 rfl) rfl rfl ?_
  refine j_iload_n 827 hC 3 (dg DL_law_8 23 rfl) rfl rfl ?_
  refine j_iconst 828 hC (dg DL_law_8 24 rfl) (v := 1) (by decide) ?_
  refine j_iadd 829 hC (dg DL_law_8 25 rfl) ?_
  refine j_sld 830 (i + 1) hC hX (nI_add i 1) (by omega) hL (dg DL_law_8 26 rfl) ?_
  refine j_Vi (As := [.int (xs (i + 1))]) 831 hC (m_X10_append hw) kkL_124 k_95 (by decide) ⟨_, _, rfl⟩ ⟨⟨(Nat.le_of_ble_eq_true rfl), (Nat.le_of_ble_eq_true rfl)⟩, (Nat.le_of_ble_eq_true rfl), (Nat.le_of_ble_eq_true rfl)⟩ rfl rfl (Nat.le_of_ble_eq_true rfl) (dg DL_law_8 27 rfl) (fun r' υ hw => ?_)
  obtain ⟨e, hi2⟩ := hw
  refine j_icmp_eq 834 963 hC (dg DL_law_8 28 rfl) (by decide) (fun _ => ?_) (fun ne => absurd e.symm ne)
  exact rest υ hi2
set_option maxRecDepth 100000 in
set_option maxHeartbeats 4000000 in
theorem lc_27 {X : XT} {B : Nat} (hC : Cx X 4 cL_law RL room_1) {b L : Nat} {xs : Nat → Int32} (hL : L ≤ 2048) (hX : Scr X b L B xs) {i : Nat} (hi : i + 4 ≤ L) {σ : SS} (h : INV σ) (rest : ∀ τ, INV τ → J X 4 B 103 RS 103 2338 τ [(0, .ref b), (1, .ref (B + 0)), (2, .ref (B + 95)), (3, .int (nI i))] 963 []) : J X 4 B 103 RS 103 2338 σ [(0, .ref b), (1, .ref (B + 0)), (2, .ref (B + 95)), (3, .int (nI i))] 839 [] := by
  refine j_aload_n 839 hC 1 (dg DL_law_8 31 rfl) rfl rfl ?_
  refine j_Vi (As := []) 840 hC (m_X9_read (b_read h)) kkL_125 k_0 (by decide) ⟨_, _, rfl⟩ ⟨⟨(Nat.le_of_ble_eq_true rfl), (Nat.le_of_ble_eq_true rfl)⟩, (Nat.le_of_ble_eq_true rfl), (Nat.le_of_ble_eq_true rfl)⟩ rfl rfl (Nat.le_of_ble_eq_true rfl) (dg DL_law_8 32 rfl) (fun r τ hw => ?_)
  have hw : wp_X10_read τ (fun r' υ => r' = r ∧ INV υ) := hw
  refine j_aload_n 843 hC 2 (dg DL_law_8 33 rfl) rfl rfl ?_
  refine j_Vi (As := []) 844 hC (m_X10_read hw) kkL_128 k_95 (by decide) ⟨_, _, rfl⟩ ⟨⟨(Nat.le_of_ble_eq_true rfl), (Nat.le_of_ble_eq_true rfl)⟩, (Nat.le_of_ble_eq_true rfl), (Nat.le_of_ble_eq_true rfl)⟩ rfl rfl (Nat.le_of_ble_eq_true rfl) (dg DL_law_8 34 rfl) (fun r' υ hw => ?_)
  obtain ⟨e, hi2⟩ := hw
  refine j_icmp_eq 847 963 hC (dg DL_law_8 35 rfl) (by decide) (fun _ => ?_) (fun ne => absurd e.symm ne)
  exact rest υ hi2
set_option maxRecDepth 100000 in
set_option maxHeartbeats 4000000 in
theorem lc_28 {X : XT} {B : Nat} (hC : Cx X 4 cL_law RL room_1) {b L : Nat} {xs : Nat → Int32} (hL : L ≤ 2048) (hX : Scr X b L B xs) {i : Nat} (hi : i + 4 ≤ L) {σ : SS} (h : INV σ) (rest : ∀ τ, INV τ → J X 4 B 103 RS 103 2338 τ [(0, .ref b), (1, .ref (B + 0)), (2, .ref (B + 95)), (3, .int (nI i))] 963 []) : J X 4 B 103 RS 103 2338 σ [(0, .ref b), (1, .ref (B + 0)), (2, .ref (B + 95)), (3, .int (nI i))] 852 [] := by
  refine j_aload_n 852 hC 1 (dg DL_law_8 38 rfl) rfl rfl ?_
  refine j_aload_n 853 hC 0 (dg DL_law_8 39 rfl) rfl rfl ?_
  refine j_iload_n 854 hC 3 (dg DL_law_8 40 rfl) rfl rfl ?_
  refine j_iconst 855 hC (dg DL_law_8 41 rfl) (v := 1) (by decide) ?_
  refine j_iadd 856 hC (dg DL_law_8 42 rfl) ?_
  refine j_sld 857 (i + 1) hC hX (nI_add i 1) (by omega) hL (dg DL_law_8 43 rfl) ?_
  refine j_Vi (As := [.int (xs (i + 1))]) 858 hC (m_X9_refusal (b_refusal h (xs (i + 1)))) kkL_129 k_0 (by decide) ⟨_, _, rfl⟩ ⟨⟨(Nat.le_of_ble_eq_true rfl), (Nat.le_of_ble_eq_true rfl)⟩, (Nat.le_of_ble_eq_true rfl), (Nat.le_of_ble_eq_true rfl)⟩ rfl rfl (Nat.le_of_ble_eq_true rfl) (dg DL_law_8 44 rfl) (fun r τ hw => ?_)
  have hw : wp_X10_refusal τ (xs (i + 1)) (fun r' υ => r' = r ∧ INV υ) := hw
  refine j_aload_n 861 hC 2 (dg DL_law_8 45 rfl) rfl rfl ?_
  refine j_aload_n 862 hC 0 (dg DL_law_8 46 rfl) rfl rfl ?_
  refine j_iload_n 863 hC 3 (dg DL_law_8 47 rfl) rfl rfl ?_
  refine j_iconst 864 hC (dg DL_law_8 48 rfl) (v := 1) (by decide) ?_
  refine j_iadd 865 hC (dg DL_law_8 49 rfl) ?_
  refine j_sld 866 (i + 1) hC hX (nI_add i 1) (by omega) hL (dg DL_law_8 50 rfl) ?_
  refine j_Vi (As := [.int (xs (i + 1))]) 867 hC (m_X10_refusal hw) kkL_132 k_95 (by decide) ⟨_, _, rfl⟩ ⟨⟨(Nat.le_of_ble_eq_true rfl), (Nat.le_of_ble_eq_true rfl)⟩, (Nat.le_of_ble_eq_true rfl), (Nat.le_of_ble_eq_true rfl)⟩ rfl rfl (Nat.le_of_ble_eq_true rfl) (dg DL_law_8 51 rfl) (fun r' υ hw => ?_)
  obtain ⟨e, hi2⟩ := hw
  refine j_icmp_eq 870 963 hC (dg DL_law_8 52 rfl) (by decide) (fun _ => ?_) (fun ne => absurd e.symm ne)
  exact rest υ hi2
set_option maxRecDepth 100000 in
set_option maxHeartbeats 4000000 in
theorem lc_29 {X : XT} {B : Nat} (hC : Cx X 4 cL_law RL room_1) {b L : Nat} {xs : Nat → Int32} (hL : L ≤ 2048) (hX : Scr X b L B xs) {i : Nat} (hi : i + 4 ≤ L) {σ : SS} (h : INV σ) (rest : ∀ τ, INV τ → J X 4 B 103 RS 103 2338 τ [(0, .ref b), (1, .ref (B + 0)), (2, .ref (B + 95)), (3, .int (nI i))] 963 []) : J X 4 B 103 RS 103 2338 σ [(0, .ref b), (1, .ref (B + 0)), (2, .ref (B + 95)), (3, .int (nI i))] 875 [] := by
  refine j_aload_n 875 hC 1 (dg DL_law_8 55 rfl) rfl rfl ?_
  refine j_aload_n 876 hC 0 (dg DL_law_8 56 rfl) rfl rfl ?_
  refine j_iload_n 877 hC 3 (dg DL_law_8 57 rfl) rfl rfl ?_
  refine j_iconst 878 hC (dg DL_law_8 58 rfl) (v := 1) (by decide) ?_
  refine j_iadd 879 hC (dg DL_law_8 59 rfl) ?_
  refine j_sld 880 (i + 1) hC hX (nI_add i 1) (by omega) hL (dg DL_law_9 0 rfl) ?_
  refine j_Vi (As := [.int (xs (i + 1))]) 881 hC (m_X9_account (b_account h (xs (i + 1)))) kkL_133 k_0 (by decide) ⟨_, _, rfl⟩ ⟨⟨(Nat.le_of_ble_eq_true rfl), (Nat.le_of_ble_eq_true rfl)⟩, (Nat.le_of_ble_eq_true rfl), (Nat.le_of_ble_eq_true rfl)⟩ rfl rfl (Nat.le_of_ble_eq_true rfl) (dg DL_law_9 1 rfl) (fun r τ hw => ?_)
  have hw : wp_X10_account τ (xs (i + 1)) (fun r' υ => r' = r ∧ INV υ) := hw
  refine j_aload_n 884 hC 2 (dg DL_law_9 2 rfl) rfl rfl ?_
  refine j_aload_n 885 hC 0 (dg DL_law_9 3 rfl) rfl rfl ?_
  refine j_iload_n 886 hC 3 (dg DL_law_9 4 rfl) rfl rfl ?_
  refine j_iconst 887 hC (dg DL_law_9 5 rfl) (v := 1) (by decide) ?_
  refine j_iadd 888 hC (dg DL_law_9 6 rfl) ?_
  refine j_sld 889 (i + 1) hC hX (nI_add i 1) (by omega) hL (dg DL_law_9 7 rfl) ?_
  refine j_Vi (As := [.int (xs (i + 1))]) 890 hC (m_X10_account hw) kkL_136 k_95 (by decide) ⟨_, _, rfl⟩ ⟨⟨(Nat.le_of_ble_eq_true rfl), (Nat.le_of_ble_eq_true rfl)⟩, (Nat.le_of_ble_eq_true rfl), (Nat.le_of_ble_eq_true rfl)⟩ rfl rfl (Nat.le_of_ble_eq_true rfl) (dg DL_law_9 8 rfl) (fun r' υ hw => ?_)
  obtain ⟨e, hi2⟩ := hw
  refine j_icmp_eq 893 963 hC (dg DL_law_9 9 rfl) (by decide) (fun _ => ?_) (fun ne => absurd e.symm ne)
  exact rest υ hi2
set_option maxRecDepth 100000 in
set_option maxHeartbeats 4000000 in
theorem lc_30 {X : XT} {B : Nat} (hC : Cx X 4 cL_law RL room_1) {b L : Nat} {xs : Nat → Int32} (hL : L ≤ 2048) (hX : Scr X b L B xs) {i : Nat} (hi : i + 4 ≤ L) {σ : SS} (h : INV σ) (rest : ∀ τ, INV τ → J X 4 B 103 RS 103 2338 τ [(0, .ref b), (1, .ref (B + 0)), (2, .ref (B + 95)), (3, .int (nI i))] 963 []) : J X 4 B 103 RS 103 2338 σ [(0, .ref b), (1, .ref (B + 0)), (2, .ref (B + 95)), (3, .int (nI i))] 898 [] := by
  refine j_aload_n 898 hC 1 (dg DL_law_9 12 rfl) rfl rfl ?_
  refine j_Vi (As := []) 899 hC (m_X9_isWell (b_isWell h)) kkL_137 k_0 (by decide) ⟨_, _, rfl⟩ ⟨⟨(Nat.le_of_ble_eq_true rfl), (Nat.le_of_ble_eq_true rfl)⟩, (Nat.le_of_ble_eq_true rfl), (Nat.le_of_ble_eq_true rfl)⟩ rfl rfl (Nat.le_of_ble_eq_true rfl) (dg DL_law_9 13 rfl) (fun r τ hw => ?_)
  have hw : wp_X10_isWell τ (fun r' υ => r' = r ∧ INV υ) := hw
  refine j_aload_n 902 hC 2 (dg DL_law_9 14 rfl) rfl rfl ?_
  refine j_Vi (As := []) 903 hC (m_X10_isWell hw) kkL_140 k_95 (by decide) ⟨_, _, rfl⟩ ⟨⟨(Nat.le_of_ble_eq_true rfl), (Nat.le_of_ble_eq_true rfl)⟩, (Nat.le_of_ble_eq_true rfl), (Nat.le_of_ble_eq_true rfl)⟩ rfl rfl (Nat.le_of_ble_eq_true rfl) (dg DL_law_9 15 rfl) (fun r' υ hw => ?_)
  obtain ⟨e, hi2⟩ := hw
  refine j_icmp_eq 906 963 hC (dg DL_law_9 16 rfl) (by decide) (fun _ => ?_) (fun ne => absurd e.symm ne)
  exact rest υ hi2
set_option maxRecDepth 100000 in
set_option maxHeartbeats 4000000 in
theorem lc_31 {X : XT} {B : Nat} (hC : Cx X 4 cL_law RL room_1) {b L : Nat} {xs : Nat → Int32} (hL : L ≤ 2048) (hX : Scr X b L B xs) {i : Nat} (hi : i + 4 ≤ L) {σ : SS} (h : INV σ) (rest : ∀ τ, INV τ → J X 4 B 103 RS 103 2338 τ [(0, .ref b), (1, .ref (B + 0)), (2, .ref (B + 95)), (3, .int (nI i))] 963 []) : J X 4 B 103 RS 103 2338 σ [(0, .ref b), (1, .ref (B + 0)), (2, .ref (B + 95)), (3, .int (nI i))] 911 [] := by
  refine j_aload_n 911 hC 1 (dg DL_law_9 19 rfl) rfl rfl ?_
  refine j_Vi (As := []) 912 hC (m_X9_mean (b_mean h)) kkL_141 k_0 (by decide) ⟨_, _, rfl⟩ ⟨⟨(Nat.le_of_ble_eq_true rfl), (Nat.le_of_ble_eq_true rfl)⟩, (Nat.le_of_ble_eq_true rfl), (Nat.le_of_ble_eq_true rfl)⟩ rfl rfl (Nat.le_of_ble_eq_true rfl) (dg DL_law_9 20 rfl) (fun r τ hw => ?_)
  have hw : wp_X10_mean τ (fun r' υ => r' = r ∧ INV υ) := hw
  refine j_aload_n 915 hC 2 (dg DL_law_9 21 rfl) rfl rfl ?_
  refine j_Vi (As := []) 916 hC (m_X10_mean hw) kkL_144 k_95 (by decide) ⟨_, _, rfl⟩ ⟨⟨(Nat.le_of_ble_eq_true rfl), (Nat.le_of_ble_eq_true rfl)⟩, (Nat.le_of_ble_eq_true rfl), (Nat.le_of_ble_eq_true rfl)⟩ rfl rfl (Nat.le_of_ble_eq_true rfl) (dg DL_law_9 22 rfl) (fun r' υ hw => ?_)
  obtain ⟨e, hi2⟩ := hw
  refine j_icmp_eq 919 963 hC (dg DL_law_9 23 rfl) (by decide) (fun _ => ?_) (fun ne => absurd e.symm ne)
  exact rest υ hi2
set_option maxRecDepth 100000 in
set_option maxHeartbeats 4000000 in
theorem lc_32 {X : XT} {B : Nat} (hC : Cx X 4 cL_law RL room_1) {b L : Nat} {xs : Nat → Int32} (hL : L ≤ 2048) (hX : Scr X b L B xs) {i : Nat} (hi : i + 4 ≤ L) {σ : SS} (h : INV σ) (rest : ∀ τ, INV τ → J X 4 B 103 RS 103 2338 τ [(0, .ref b), (1, .ref (B + 0)), (2, .ref (B + 95)), (3, .int (nI i))] 963 []) : J X 4 B 103 RS 103 2338 σ [(0, .ref b), (1, .ref (B + 0)), (2, .ref (B + 95)), (3, .int (nI i))] 924 [] := by
  refine j_aload_n 924 hC 1 (dg DL_law_9 26 rfl) rfl rfl ?_
  refine j_Vi (As := []) 925 hC (m_X9_undo (b_undo h)) kkL_145 k_0 (by decide) ⟨_, _, rfl⟩ ⟨⟨(Nat.le_of_ble_eq_true rfl), (Nat.le_of_ble_eq_true rfl)⟩, (Nat.le_of_ble_eq_true rfl), (Nat.le_of_ble_eq_true rfl)⟩ rfl rfl (Nat.le_of_ble_eq_true rfl) (dg DL_law_9 27 rfl) (fun r τ hw => ?_)
  have hw : wp_X10_undo τ (fun r' υ => r' = r ∧ INV υ) := hw
  refine j_aload_n 928 hC 2 (dg DL_law_9 28 rfl) rfl rfl ?_
  refine j_Vi (As := []) 929 hC (m_X10_undo hw) kkL_148 k_95 (by decide) ⟨_, _, rfl⟩ ⟨⟨(Nat.le_of_ble_eq_true rfl), (Nat.le_of_ble_eq_true rfl)⟩, (Nat.le_of_ble_eq_true rfl), (Nat.le_of_ble_eq_true rfl)⟩ rfl rfl (Nat.le_of_ble_eq_true rfl) (dg DL_law_9 29 rfl) (fun r' υ hw => ?_)
  obtain ⟨e, hi2⟩ := hw
  refine j_icmp_eq 932 963 hC (dg DL_law_9 30 rfl) (by decide) (fun _ => ?_) (fun ne => absurd e.symm ne)
  exact rest υ hi2
set_option maxRecDepth 100000 in
set_option maxHeartbeats 4000000 in
theorem lc_33 {X : XT} {B : Nat} (hC : Cx X 4 cL_law RL room_1) {b L : Nat} {xs : Nat → Int32} (hL : L ≤ 2048) (hX : Scr X b L B xs) {i : Nat} (hi : i + 4 ≤ L) {σ : SS} (h : INV σ) (rest : ∀ τ, INV τ → J X 4 B 103 RS 103 2338 τ [(0, .ref b), (1, .ref (B + 0)), (2, .ref (B + 95)), (3, .int (nI i))] 963 []) : J X 4 B 103 RS 103 2338 σ [(0, .ref b), (1, .ref (B + 0)), (2, .ref (B + 95)), (3, .int (nI i))] 937 [] := by
  refine j_aload_n 937 hC 1 (dg DL_law_9 33 rfl) rfl rfl ?_
  refine j_Vi (As := []) 938 hC (m_X9_save (b_save h)) kkL_149 k_0 (by decide) ⟨_, _, rfl⟩ ⟨⟨(Nat.le_of_ble_eq_true rfl), (Nat.le_of_ble_eq_true rfl)⟩, (Nat.le_of_ble_eq_true rfl), (Nat.le_of_ble_eq_true rfl)⟩ rfl rfl (Nat.le_of_ble_eq_true rfl) (dg DL_law_9 34 rfl) (fun r τ hw => ?_)
  have hw : wp_X10_save τ (fun r' υ => r' = r ∧ INV υ) := hw
  refine j_aload_n 941 hC 2 (dg DL_law_9 35 rfl) rfl rfl ?_
  refine j_Vi (As := []) 942 hC (m_X10_save hw) kkL_152 k_95 (by decide) ⟨_, _, rfl⟩ ⟨⟨(Nat.le_of_ble_eq_true rfl), (Nat.le_of_ble_eq_true rfl)⟩, (Nat.le_of_ble_eq_true rfl), (Nat.le_of_ble_eq_true rfl)⟩ rfl rfl (Nat.le_of_ble_eq_true rfl) (dg DL_law_9 36 rfl) (fun r' υ hw => ?_)
  obtain ⟨e, hi2⟩ := hw
  refine j_icmp_eq 945 963 hC (dg DL_law_9 37 rfl) (by decide) (fun _ => ?_) (fun ne => absurd e.symm ne)
  exact rest υ hi2
set_option maxRecDepth 100000 in
set_option maxHeartbeats 4000000 in
theorem lc_34 {X : XT} {B : Nat} (hC : Cx X 4 cL_law RL room_1) {b L : Nat} {xs : Nat → Int32} (hL : L ≤ 2048) (hX : Scr X b L B xs) {i : Nat} (hi : i + 4 ≤ L) {σ : SS} (h : INV σ) (rest : ∀ τ, INV τ → J X 4 B 103 RS 103 2338 τ [(0, .ref b), (1, .ref (B + 0)), (2, .ref (B + 95)), (3, .int (nI i))] 963 []) : J X 4 B 103 RS 103 2338 σ [(0, .ref b), (1, .ref (B + 0)), (2, .ref (B + 95)), (3, .int (nI i))] 950 [] := by
  refine j_aload_n 950 hC 1 (dg DL_law_9 40 rfl) rfl rfl ?_
  refine j_Vi (As := []) 951 hC (m_X9_restore (b_restore h)) kkL_153 k_0 (by decide) ⟨_, _, rfl⟩ ⟨⟨(Nat.le_of_ble_eq_true rfl), (Nat.le_of_ble_eq_true rfl)⟩, (Nat.le_of_ble_eq_true rfl), (Nat.le_of_ble_eq_true rfl)⟩ rfl rfl (Nat.le_of_ble_eq_true rfl) (dg DL_law_9 41 rfl) (fun r τ hw => ?_)
  have hw : wp_X10_restore τ (fun r' υ => r' = r ∧ INV υ) := hw
  refine j_aload_n 954 hC 2 (dg DL_law_9 42 rfl) rfl rfl ?_
  refine j_Vi (As := []) 955 hC (m_X10_restore hw) kkL_156 k_95 (by decide) ⟨_, _, rfl⟩ ⟨⟨(Nat.le_of_ble_eq_true rfl), (Nat.le_of_ble_eq_true rfl)⟩, (Nat.le_of_ble_eq_true rfl), (Nat.le_of_ble_eq_true rfl)⟩ rfl rfl (Nat.le_of_ble_eq_true rfl) (dg DL_law_9 43 rfl) (fun r' υ hw => ?_)
  obtain ⟨e, hi2⟩ := hw
  refine j_icmp_eq 958 963 hC (dg DL_law_9 44 rfl) (by decide) (fun _ => ?_) (fun ne => absurd e.symm ne)
  exact rest υ hi2
theorem law_gt {L i : Nat} (hL : L ≤ 2048) (hi : i ≤ 2052) (h : L < i + 4) : nI L - 4 < nI i := by
  rw [Int32.lt_iff_toInt_lt, show (4 : Int32) = nI 4 from rfl, pk_sub_toInt (by omega) (by omega), nI_toInt (by omega)]
  omega
theorem law_ngt {L i : Nat} (hL : L ≤ 2048) (hi : i ≤ 2052) (h : ¬ nI L - 4 < nI i) : i + 4 ≤ L := by
  rw [Int32.lt_iff_toInt_lt, show (4 : Int32) = nI 4 from rfl, pk_sub_toInt (by omega) (by omega), nI_toInt (by omega)] at h
  omega
theorem and63 (x : Int32) : ∃ c, c < 64 ∧ x &&& 63 = nI c := by
  obtain ⟨n, hn, rfl⟩ := wb_of32 x
  refine ⟨n &&& 63, ?_, ?_⟩
  · exact Nat.lt_of_le_of_lt Nat.and_le_right (by decide)
  · rw [show (63 : Int32) = nI 63 from rfl, mI_and]
set_option maxRecDepth 100000 in
set_option maxHeartbeats 4000000 in
theorem law_loop {X : XT} {B : Nat} (hC : Cx X 4 cL_law RL room_1) {b L : Nat} {xs : Nat → Int32} (hL : L ≤ 2048) (hX : Scr X b L B xs) (fin : ∀ σ lv, J X 4 B 103 RS 103 2338 σ lv 969 []) : ∀ d i, L < i + d + 4 → i ≤ 2052 → ∀ σ, INV σ → J X 4 B 103 RS 103 2338 σ [(0, .ref b), (1, .ref (B + 0)), (2, .ref (B + 95)), (3, .int (nI i))] 18 [] := by
  intro d
  induction d with
  | zero =>
    intro i hd h52 σ h
    refine j_iload_n 18 hC 3 (dg DL_law_0 10 rfl) rfl rfl ?_
    refine j_aload_n 19 hC 0 (dg DL_law_0 11 rfl) rfl rfl ?_
    refine j_slen 20 hC hX (dg DL_law_0 12 rfl) ?_
    refine j_iconst 21 hC (dg DL_law_0 13 rfl) (v := 4) (by decide) ?_
    refine j_isub 22 hC (dg DL_law_0 14 rfl) ?_
    refine j_icmp_gt 23 969 hC (dg DL_law_0 15 rfl) (by decide) (fun _ => fin _ _) (fun hbr => absurd (law_gt hL h52 (by omega)) hbr)
  | succ d ih =>
    intro i hd h52 σ h
    refine j_iload_n 18 hC 3 (dg DL_law_0 10 rfl) rfl rfl ?_
    refine j_aload_n 19 hC 0 (dg DL_law_0 11 rfl) rfl rfl ?_
    refine j_slen 20 hC hX (dg DL_law_0 12 rfl) ?_
    refine j_iconst 21 hC (dg DL_law_0 13 rfl) (v := 4) (by decide) ?_
    refine j_isub 22 hC (dg DL_law_0 14 rfl) ?_
    refine j_icmp_gt 23 969 hC (dg DL_law_0 15 rfl) (by decide) (fun _ => fin _ _) (fun hbr => ?_)
    have hi : i + 4 ≤ L := law_ngt hL h52 hbr
    have rest : ∀ τ, INV τ → J X 4 B 103 RS 103 2338 τ [(0, .ref b), (1, .ref (B + 0)), (2, .ref (B + 95)), (3, .int (nI i))] 963 [] := by
      intro τ ht
      refine j_iinc 963 hC 3 (nI (i + 4)) [(3, .int (nI (i + 4))), (0, .ref b), (1, .ref (B + 0)), (2, .ref (B + 95))] (dg DL_law_9 47 rfl) rfl (nI_add i 4) (by decide) rfl ?_
      refine j_goto 966 18 hC (dg DL_law_9 48 rfl) (by decide) ?_
      refine j_lv [1, 2, 3, 0] (lv' := [(0, .ref b), (1, .ref (B + 0)), (2, .ref (B + 95)), (3, .int (nI (i + 4)))]) rfl ?_
      exact ih (i + 4) (by omega) (by omega) τ ht
    refine j_aload_n 26 hC 0 (dg DL_law_0 16 rfl) rfl rfl ?_
    refine j_iload_n 27 hC 3 (dg DL_law_0 17 rfl) rfl rfl ?_
    refine j_sld 28 i hC hX rfl (by omega) hL (dg DL_law_0 18 rfl) ?_
    refine j_bipush 29 hC (dg DL_law_0 19 rfl) (v := 63) (by decide) ?_
    refine j_iand 31 hC (dg DL_law_0 20 rfl) ?_
    obtain ⟨c, hc, ec⟩ := and63 (xs i)
    rw [ec]
    by_cases hc35 : 35 ≤ c
    · exact j_tableOut 32 963 hC (dg DL_law_0 21 rfl) (Or.inr (by rw [nI_toInt (by omega)]; omega)) (by decide) (rest σ h)
    · have hlo : ¬ (nI c).toInt < 0 := by rw [nI_toInt (by omega)]; omega
      have hhi : ¬ (34 : Int) < (nI c).toInt := by rw [nI_toInt (by omega)]; omega
      have hc35 : c < 35 := by omega
      rcases (show c = 0 ∨ c = 1 ∨ c = 2 ∨ c = 3 ∨ c = 4 ∨ c = 5 ∨ c = 6 ∨ c = 7 ∨ c = 8 ∨ c = 9 ∨ c = 10 ∨ c = 11 ∨ c = 12 ∨ c = 13 ∨ c = 14 ∨ c = 15 ∨ c = 16 ∨ c = 17 ∨ c = 18 ∨ c = 19 ∨ c = 20 ∨ c = 21 ∨ c = 22 ∨ c = 23 ∨ c = 24 ∨ c = 25 ∨ c = 26 ∨ c = 27 ∨ c = 28 ∨ c = 29 ∨ c = 30 ∨ c = 31 ∨ c = 32 ∨ c = 33 ∨ c = 34 by omega) with rfl | rfl | rfl | rfl | rfl | rfl | rfl | rfl | rfl | rfl | rfl | rfl | rfl | rfl | rfl | rfl | rfl | rfl | rfl | rfl | rfl | rfl | rfl | rfl | rfl | rfl | rfl | rfl | rfl | rfl | rfl | rfl | rfl | rfl | rfl
      · exact j_tableIn 32 188 hC (dg DL_law_0 21 rfl) hlo hhi (off := 156) rfl (by decide) (lc_0 hC hL hX hi h rest)
      · exact j_tableIn 32 231 hC (dg DL_law_0 21 rfl) hlo hhi (off := 199) rfl (by decide) (lc_1 hC hL hX hi h rest)
      · exact j_tableIn 32 254 hC (dg DL_law_0 21 rfl) hlo hhi (off := 222) rfl (by decide) (lc_2 hC hL hX hi h rest)
      · exact j_tableIn 32 297 hC (dg DL_law_0 21 rfl) hlo hhi (off := 265) rfl (by decide) (lc_3 hC hL hX hi h rest)
      · exact j_tableIn 32 340 hC (dg DL_law_0 21 rfl) hlo hhi (off := 308) rfl (by decide) (lc_4 hC hL hX hi h rest)
      · exact j_tableIn 32 363 hC (dg DL_law_0 21 rfl) hlo hhi (off := 331) rfl (by decide) (lc_5 hC hL hX hi h rest)
      · exact j_tableIn 32 396 hC (dg DL_law_0 21 rfl) hlo hhi (off := 364) rfl (by decide) (lc_6 hC hL hX hi h rest)
      · exact j_tableIn 32 419 hC (dg DL_law_0 21 rfl) hlo hhi (off := 387) rfl (by decide) (lc_7 hC hL hX hi h rest)
      · exact j_tableIn 32 432 hC (dg DL_law_0 21 rfl) hlo hhi (off := 400) rfl (by decide) (lc_8 hC hL hX hi h rest)
      · exact j_tableIn 32 465 hC (dg DL_law_0 21 rfl) hlo hhi (off := 433) rfl (by decide) (lc_9 hC hL hX hi h rest)
      · exact j_tableIn 32 498 hC (dg DL_law_0 21 rfl) hlo hhi (off := 466) rfl (by decide) (lc_10 hC hL hX hi h rest)
      · exact j_tableIn 32 521 hC (dg DL_law_0 21 rfl) hlo hhi (off := 489) rfl (by decide) (lc_11 hC hL hX hi h rest)
      · exact j_tableIn 32 544 hC (dg DL_law_0 21 rfl) hlo hhi (off := 512) rfl (by decide) (lc_12 hC hL hX hi h rest)
      · exact j_tableIn 32 577 hC (dg DL_law_0 21 rfl) hlo hhi (off := 545) rfl (by decide) (lc_13 hC hL hX hi h rest)
      · exact j_tableIn 32 590 hC (dg DL_law_0 21 rfl) hlo hhi (off := 558) rfl (by decide) (lc_14 hC hL hX hi h rest)
      · exact j_tableIn 32 603 hC (dg DL_law_0 21 rfl) hlo hhi (off := 571) rfl (by decide) (lc_15 hC hL hX hi h rest)
      · exact j_tableIn 32 616 hC (dg DL_law_0 21 rfl) hlo hhi (off := 584) rfl (by decide) (lc_16 hC hL hX hi h rest)
      · exact j_tableIn 32 639 hC (dg DL_law_0 21 rfl) hlo hhi (off := 607) rfl (by decide) (lc_17 hC hL hX hi h rest)
      · exact j_tableIn 32 652 hC (dg DL_law_0 21 rfl) hlo hhi (off := 620) rfl (by decide) (lc_18 hC hL hX hi h rest)
      · exact j_tableIn 32 665 hC (dg DL_law_0 21 rfl) hlo hhi (off := 633) rfl (by decide) (lc_19 hC hL hX hi h rest)
      · exact j_tableIn 32 678 hC (dg DL_law_0 21 rfl) hlo hhi (off := 646) rfl (by decide) (lc_20 hC hL hX hi h rest)
      · exact j_tableIn 32 701 hC (dg DL_law_0 21 rfl) hlo hhi (off := 669) rfl (by decide) (lc_21 hC hL hX hi h rest)
      · exact j_tableIn 32 724 hC (dg DL_law_0 21 rfl) hlo hhi (off := 692) rfl (by decide) (lc_22 hC hL hX hi h rest)
      · exact j_tableIn 32 757 hC (dg DL_law_0 21 rfl) hlo hhi (off := 725) rfl (by decide) (lc_23 hC hL hX hi h rest)
      · exact j_tableIn 32 780 hC (dg DL_law_0 21 rfl) hlo hhi (off := 748) rfl (by decide) (lc_24 hC hL hX hi h rest)
      · exact j_tableIn 32 793 hC (dg DL_law_0 21 rfl) hlo hhi (off := 761) rfl (by decide) (lc_25 hC hL hX hi h rest)
      · exact j_tableIn 32 816 hC (dg DL_law_0 21 rfl) hlo hhi (off := 784) rfl (by decide) (lc_26 hC hL hX hi h rest)
      · exact j_tableIn 32 839 hC (dg DL_law_0 21 rfl) hlo hhi (off := 807) rfl (by decide) (lc_27 hC hL hX hi h rest)
      · exact j_tableIn 32 852 hC (dg DL_law_0 21 rfl) hlo hhi (off := 820) rfl (by decide) (lc_28 hC hL hX hi h rest)
      · exact j_tableIn 32 875 hC (dg DL_law_0 21 rfl) hlo hhi (off := 843) rfl (by decide) (lc_29 hC hL hX hi h rest)
      · exact j_tableIn 32 898 hC (dg DL_law_0 21 rfl) hlo hhi (off := 866) rfl (by decide) (lc_30 hC hL hX hi h rest)
      · exact j_tableIn 32 911 hC (dg DL_law_0 21 rfl) hlo hhi (off := 879) rfl (by decide) (lc_31 hC hL hX hi h rest)
      · exact j_tableIn 32 924 hC (dg DL_law_0 21 rfl) hlo hhi (off := 892) rfl (by decide) (lc_32 hC hL hX hi h rest)
      · exact j_tableIn 32 937 hC (dg DL_law_0 21 rfl) hlo hhi (off := 905) rfl (by decide) (lc_33 hC hL hX hi h rest)
      · exact j_tableIn 32 950 hC (dg DL_law_0 21 rfl) hlo hhi (off := 918) rfl (by decide) (lc_34 hC hL hX hi h rest)
set_option maxRecDepth 100000 in
set_option maxHeartbeats 4000000 in
theorem law_begin {X : XT} {B : Nat} (hC : Cx X 4 cL_law RL room_1) (hA : AOX X) {b L : Nat} {xs : Nat → Int32} (hL : L ≤ 2048) (hX : Scr X b L B xs) (fin : ∀ σ lv, J X 4 B 103 RS 103 2338 σ lv 969 []) : J X 4 B 0 Tr 0 0 sg0 [(0, .ref b)] 0 [] := by
  have hz : Z 0 sg0 := fun _ _ => rfl
  refine j_newO (t := 9) (n := 0) 0 hC rfl inX9 tyX9_ok v_88 v_89 v_74 k_0 (hz (0) (Nat.le_refl _)) df9 (Nat.le_of_ble_eq_true rfl) (Nat.le_of_ble_eq_true rfl) (dg DL_law_0 0 rfl) ?_
  have z1 : Z 1 sg0 := hz.up (by decide)
  refine j_dup 3 hC (dg DL_law_0 1 rfl) rfl ?_
  refine j_I0 4 hC hA (c_X9_init z1) hL_9 ⟨(Nat.le_of_ble_eq_true rfl), (Nat.le_of_ble_eq_true rfl)⟩ ⟨(Nat.le_of_ble_eq_true rfl), (Nat.le_of_ble_eq_true rfl)⟩ (Nat.le_of_ble_eq_true rfl) (dg DL_law_0 2 rfl) (fun τ e => ?_)
  subst e
  have z3 : Z 95 (sx12 sg0) := z_last z1
  refine j_astore_n 7 hC [(1, .ref (B + 0)), (0, .ref b)] (dg DL_law_0 3 rfl) rfl (by decide) rfl ?_
  refine j_newO (t := 10) (n := 95) 8 hC rfl inX10 tyX10_ok v_840 v_841 v_84 k_95 (z3 (95) (Nat.le_refl _)) df10 (Nat.le_of_ble_eq_true rfl) (Nat.le_of_ble_eq_true rfl) (dg DL_law_0 4 rfl) ?_
  have z4 : Z 96 (sx12 sg0) := z3.up (by decide)
  refine j_dup 11 hC (dg DL_law_0 5 rfl) rfl ?_
  refine j_I0 12 hC hA (c_X10_init z4) hL_12 ⟨(Nat.le_of_ble_eq_true rfl), (Nat.le_of_ble_eq_true rfl)⟩ ⟨(Nat.le_of_ble_eq_true rfl), (Nat.le_of_ble_eq_true rfl)⟩ (Nat.le_of_ble_eq_true rfl) (dg DL_law_0 6 rfl) (fun τ e => ?_)
  have e : τ = sgF := e
  subst e
  refine j_astore_n 15 hC [(2, .ref (B + 95)), (1, .ref (B + 0)), (0, .ref b)] (dg DL_law_0 7 rfl) rfl (by decide) rfl ?_
  refine j_iconst 16 hC (dg DL_law_0 8 rfl) (v := 0) (by decide) ?_
  refine j_istore_n 17 hC [(3, .int 0), (2, .ref (B + 95)), (1, .ref (B + 0)), (0, .ref b)] (dg DL_law_0 9 rfl) rfl (by decide) rfl ?_
  refine j_lv [3, 2, 1, 0] (lv' := [(0, .ref b), (1, .ref (B + 0)), (2, .ref (B + 95)), (3, .int (nI 0))]) rfl ?_
  refine j_rs RS_sgF (j_wid (cn' := 103) (sn' := 2338) (Nat.le_of_ble_eq_true rfl) (Nat.le_of_ble_eq_true rfl) ?_)
  exact law_loop hC hL hX fin (L + 1) 0 (by omega) (by omega) _ INV_sgF
