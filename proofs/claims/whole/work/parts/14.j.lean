def it_J9_max_7cf53 : List (Nat × Instr × Nat × Nat) := [(0, .iload_n 0, 1, 1), (1, .iload_n 1, 1, 2), (2, .if_icmp .lt 7, 3, 5), (5, .iload_n 0, 1, 6), (6, .goto 4, 3, 9), (9, .iload_n 1, 1, 10), (10, .ireturn, 1, 11)]
theorem id_J9_max_7cf53 : ∀ q ∈ it_J9_max_7cf53, decode cJ9_max_7cf53 q.1 = .ok (q.2.1, q.2.2.1) ∧ q.1 + q.2.2.1 = q.2.2.2 := by decide +kernel
theorem dc_J9_max_7cf53 {pc : Nat} {i : Instr} {n pc' : Nat} (j : Nat) (h : it_J9_max_7cf53[j]? = some (pc, i, n, pc')) : Dc cJ9_max_7cf53 pc i n pc' := dc_of id_J9_max_7cf53 j h
abbrev rm_J9_max_7cf53 : Room := { frames := 0, cells := 0, slots := 0, locals := 0 }
def b_J9_max_7cf53_10    (s0 : Int32)  : Option (Int32) := some s0
set_option maxHeartbeats 4000000 in
set_option maxRecDepth 20000 in
theorem c_J9_max_7cf53_10 {X : CX} {Ω : OM} (hX : CF X Ω RJ9 cJ9_max_7cf53 2 (some .int) rm_J9_max_7cf53) (hO : OKO Ω) (hΩ : oSH Ω = SHX)   (σ : MS)   (s0 : Int32)   : GE X Ω 2 0 0 (emPI σ) 0 0 10 [] [.int s0] σ (b_J9_max_7cf53_10  s0) := by
  unfold b_J9_max_7cf53_10
  exact g_iret hX (dc_J9_max_7cf53 6 rfl) rfl rfl (Nat.le_refl _) (Nat.le_refl _)
def b_J9_max_7cf53_0   (x0 : Int32) (x1 : Int32)   : Option (Int32) := (if x0 < x1 then (b_J9_max_7cf53_10 (x1)) else (b_J9_max_7cf53_10 (x0)))
set_option maxHeartbeats 4000000 in
set_option maxRecDepth 20000 in
theorem c_J9_max_7cf53_0 {X : CX} {Ω : OM} (hX : CF X Ω RJ9 cJ9_max_7cf53 2 (some .int) rm_J9_max_7cf53) (hO : OKO Ω) (hΩ : oSH Ω = SHX)   (σ : MS)  (x0 : Int32) (x1 : Int32)    : GE X Ω 2 0 0 (emPI σ) 0 0 0 [(0, .int x0), (1, .int x1)] [] σ (b_J9_max_7cf53_0  x0 x1) := by
  unfold b_J9_max_7cf53_0
  refine g_iload_n hX (dc_J9_max_7cf53 0 rfl) rfl 0 rfl ?_
  refine g_iload_n hX (dc_J9_max_7cf53 1 rfl) rfl 1 rfl ?_
  refine g_icmp_lt (tgt := 9) hX (dc_J9_max_7cf53 2 rfl) (by decide) (fun h2 => ?_) (fun h2 => ?_)
  · refine g_iload_n hX (dc_J9_max_7cf53 5 rfl) rfl 1 rfl ?_
    exact g_sub [] rfl (c_J9_max_7cf53_10 hX hO hΩ σ (x1))
  · refine g_iload_n hX (dc_J9_max_7cf53 3 rfl) rfl 0 rfl ?_
    refine g_goto (tgt := 10) hX (dc_J9_max_7cf53 4 rfl) (by decide) ?_
    exact g_sub [] rfl (c_J9_max_7cf53_10 hX hO hΩ σ (x0))
def f_J9_max_7cf53 (x0 : Int32) (x1 : Int32)  : Option (Int32) := b_J9_max_7cf53_0  x0 x1 
theorem con_J9_max_7cf53 {Ω : OM} (hO : OKO Ω) (hΩ : oSH Ω = SHX) (x0 : Int32) (x1 : Int32) (σ : MS)  : Con Ω yJ9_max_7cf53 cJ9_max_7cf53 2 (some .int) rm_J9_max_7cf53 (emPI σ) [.int x0, .int x1] σ (f_J9_max_7cf53 x0 x1 ) :=
  con_ofF hO (by decide +kernel) (Nat.le_of_ble_eq_true rfl) rfl (fun X hX _ => c_J9_max_7cf53_0 hX hO hΩ   σ x0 x1)
def it_J9_min_7cf53 : List (Nat × Instr × Nat × Nat) := [(0, .iload_n 0, 1, 1), (1, .iload_n 1, 1, 2), (2, .if_icmp .gt 7, 3, 5), (5, .iload_n 0, 1, 6), (6, .goto 4, 3, 9), (9, .iload_n 1, 1, 10), (10, .ireturn, 1, 11)]
theorem id_J9_min_7cf53 : ∀ q ∈ it_J9_min_7cf53, decode cJ9_min_7cf53 q.1 = .ok (q.2.1, q.2.2.1) ∧ q.1 + q.2.2.1 = q.2.2.2 := by decide +kernel
theorem dc_J9_min_7cf53 {pc : Nat} {i : Instr} {n pc' : Nat} (j : Nat) (h : it_J9_min_7cf53[j]? = some (pc, i, n, pc')) : Dc cJ9_min_7cf53 pc i n pc' := dc_of id_J9_min_7cf53 j h
abbrev rm_J9_min_7cf53 : Room := { frames := 0, cells := 0, slots := 0, locals := 0 }
def b_J9_min_7cf53_10    (s0 : Int32)  : Option (Int32) := some s0
set_option maxHeartbeats 4000000 in
set_option maxRecDepth 20000 in
theorem c_J9_min_7cf53_10 {X : CX} {Ω : OM} (hX : CF X Ω RJ9 cJ9_min_7cf53 2 (some .int) rm_J9_min_7cf53) (hO : OKO Ω) (hΩ : oSH Ω = SHX)   (σ : MS)   (s0 : Int32)   : GE X Ω 2 0 0 (emPI σ) 0 0 10 [] [.int s0] σ (b_J9_min_7cf53_10  s0) := by
  unfold b_J9_min_7cf53_10
  exact g_iret hX (dc_J9_min_7cf53 6 rfl) rfl rfl (Nat.le_refl _) (Nat.le_refl _)
def b_J9_min_7cf53_0   (x0 : Int32) (x1 : Int32)   : Option (Int32) := (if x1 < x0 then (b_J9_min_7cf53_10 (x1)) else (b_J9_min_7cf53_10 (x0)))
set_option maxHeartbeats 4000000 in
set_option maxRecDepth 20000 in
theorem c_J9_min_7cf53_0 {X : CX} {Ω : OM} (hX : CF X Ω RJ9 cJ9_min_7cf53 2 (some .int) rm_J9_min_7cf53) (hO : OKO Ω) (hΩ : oSH Ω = SHX)   (σ : MS)  (x0 : Int32) (x1 : Int32)    : GE X Ω 2 0 0 (emPI σ) 0 0 0 [(0, .int x0), (1, .int x1)] [] σ (b_J9_min_7cf53_0  x0 x1) := by
  unfold b_J9_min_7cf53_0
  refine g_iload_n hX (dc_J9_min_7cf53 0 rfl) rfl 0 rfl ?_
  refine g_iload_n hX (dc_J9_min_7cf53 1 rfl) rfl 1 rfl ?_
  refine g_icmp_gt (tgt := 9) hX (dc_J9_min_7cf53 2 rfl) (by decide) (fun h2 => ?_) (fun h2 => ?_)
  · refine g_iload_n hX (dc_J9_min_7cf53 5 rfl) rfl 1 rfl ?_
    exact g_sub [] rfl (c_J9_min_7cf53_10 hX hO hΩ σ (x1))
  · refine g_iload_n hX (dc_J9_min_7cf53 3 rfl) rfl 0 rfl ?_
    refine g_goto (tgt := 10) hX (dc_J9_min_7cf53 4 rfl) (by decide) ?_
    exact g_sub [] rfl (c_J9_min_7cf53_10 hX hO hΩ σ (x0))
def f_J9_min_7cf53 (x0 : Int32) (x1 : Int32)  : Option (Int32) := b_J9_min_7cf53_0  x0 x1 
theorem con_J9_min_7cf53 {Ω : OM} (hO : OKO Ω) (hΩ : oSH Ω = SHX) (x0 : Int32) (x1 : Int32) (σ : MS)  : Con Ω yJ9_min_7cf53 cJ9_min_7cf53 2 (some .int) rm_J9_min_7cf53 (emPI σ) [.int x0, .int x1] σ (f_J9_min_7cf53 x0 x1 ) :=
  con_ofF hO (by decide +kernel) (Nat.le_of_ble_eq_true rfl) rfl (fun X hX _ => c_J9_min_7cf53_0 hX hO hΩ   σ x0 x1)
def it_J9_floorMod_7cf53 : List (Nat × Instr × Nat × Nat) := [(0, .iload_n 0, 1, 1), (1, .iload_n 1, 1, 2), (2, .irem, 1, 3), (3, .istore_n 2, 1, 4), (4, .iload_n 0, 1, 5), (5, .iload_n 1, 1, 6), (6, .ixor, 1, 7), (7, .ifCond .ge 11, 3, 10), (10, .iload_n 2, 1, 11), (11, .ifCond .eq 7, 3, 14), (14, .iload_n 2, 1, 15), (15, .iload_n 1, 1, 16), (16, .iadd, 1, 17), (17, .ireturn, 1, 18), (18, .iload_n 2, 1, 19), (19, .ireturn, 1, 20)]
theorem id_J9_floorMod_7cf53 : ∀ q ∈ it_J9_floorMod_7cf53, decode cJ9_floorMod_7cf53 q.1 = .ok (q.2.1, q.2.2.1) ∧ q.1 + q.2.2.1 = q.2.2.2 := by decide +kernel
theorem dc_J9_floorMod_7cf53 {pc : Nat} {i : Instr} {n pc' : Nat} (j : Nat) (h : it_J9_floorMod_7cf53[j]? = some (pc, i, n, pc')) : Dc cJ9_floorMod_7cf53 pc i n pc' := dc_of id_J9_floorMod_7cf53 j h
abbrev rm_J9_floorMod_7cf53 : Room := { frames := 0, cells := 0, slots := 0, locals := 0 }
def b_J9_floorMod_7cf53_18    (y2 : Int32)  : Option (Int32) := some y2
set_option maxHeartbeats 4000000 in
set_option maxRecDepth 20000 in
theorem c_J9_floorMod_7cf53_18 {X : CX} {Ω : OM} (hX : CF X Ω RJ9 cJ9_floorMod_7cf53 3 (some .int) rm_J9_floorMod_7cf53) (hO : OKO Ω) (hΩ : oSH Ω = SHX)   (σ : MS)   (y2 : Int32)   : GE X Ω 3 0 0 (emPI σ) 0 0 18 [(2, .int y2)] [] σ (b_J9_floorMod_7cf53_18  y2) := by
  unfold b_J9_floorMod_7cf53_18
  refine g_iload_n hX (dc_J9_floorMod_7cf53 14 rfl) rfl 0 rfl ?_
  exact g_iret hX (dc_J9_floorMod_7cf53 15 rfl) rfl rfl (Nat.le_refl _) (Nat.le_refl _)
def b_J9_floorMod_7cf53_0   (x0 : Int32) (x1 : Int32)   : Option (Int32) := chk (¬ x1 = 0) ((if 0 ≤ (x0 ^^^ x1) then (b_J9_floorMod_7cf53_18 ((x0 - x0 / x1 * x1))) else (if (x0 - x0 / x1 * x1) = 0 then (b_J9_floorMod_7cf53_18 ((x0 - x0 / x1 * x1))) else some ((x0 - x0 / x1 * x1) + x1))))
set_option maxHeartbeats 4000000 in
set_option maxRecDepth 20000 in
theorem c_J9_floorMod_7cf53_0 {X : CX} {Ω : OM} (hX : CF X Ω RJ9 cJ9_floorMod_7cf53 3 (some .int) rm_J9_floorMod_7cf53) (hO : OKO Ω) (hΩ : oSH Ω = SHX)   (σ : MS)  (x0 : Int32) (x1 : Int32)    : GE X Ω 3 0 0 (emPI σ) 0 0 0 [(0, .int x0), (1, .int x1)] [] σ (b_J9_floorMod_7cf53_0  x0 x1) := by
  unfold b_J9_floorMod_7cf53_0
  refine g_iload_n hX (dc_J9_floorMod_7cf53 0 rfl) rfl 0 rfl ?_
  refine g_iload_n hX (dc_J9_floorMod_7cf53 1 rfl) rfl 1 rfl ?_
  refine g_chk (fun hc4 => ?_)
  refine g_irem hX (dc_J9_floorMod_7cf53 2 rfl) hc4 ?_
  refine g_istore_n (L' := [(2, .int (x0 - x0 / x1 * x1)), (0, .int x0), (1, .int x1)]) hX (dc_J9_floorMod_7cf53 3 rfl) rfl (by decide) rfl ?_
  refine g_iload_n hX (dc_J9_floorMod_7cf53 4 rfl) rfl 1 rfl ?_
  refine g_iload_n hX (dc_J9_floorMod_7cf53 5 rfl) rfl 2 rfl ?_
  refine g_ixor hX (dc_J9_floorMod_7cf53 6 rfl) ?_
  refine g_if_ge (tgt := 18) hX (dc_J9_floorMod_7cf53 7 rfl) (by decide) (fun h5 => ?_) (fun h5 => ?_)
  · exact g_sub [0] rfl (c_J9_floorMod_7cf53_18 hX hO hΩ σ ((x0 - x0 / x1 * x1)))
  · refine g_iload_n hX (dc_J9_floorMod_7cf53 8 rfl) rfl 0 rfl ?_
    refine g_if_eq (tgt := 18) hX (dc_J9_floorMod_7cf53 9 rfl) (by decide) (fun h6 => ?_) (fun h6 => ?_)
    · exact g_sub [0] rfl (c_J9_floorMod_7cf53_18 hX hO hΩ σ ((x0 - x0 / x1 * x1)))
    · refine g_iload_n hX (dc_J9_floorMod_7cf53 10 rfl) rfl 0 rfl ?_
      refine g_iload_n hX (dc_J9_floorMod_7cf53 11 rfl) rfl 2 rfl ?_
      refine g_iadd hX (dc_J9_floorMod_7cf53 12 rfl) ?_
      exact g_iret hX (dc_J9_floorMod_7cf53 13 rfl) rfl rfl (Nat.le_refl _) (Nat.le_refl _)
def f_J9_floorMod_7cf53 (x0 : Int32) (x1 : Int32)  : Option (Int32) := b_J9_floorMod_7cf53_0  x0 x1 
theorem con_J9_floorMod_7cf53 {Ω : OM} (hO : OKO Ω) (hΩ : oSH Ω = SHX) (x0 : Int32) (x1 : Int32) (σ : MS)  : Con Ω yJ9_floorMod_7cf53 cJ9_floorMod_7cf53 3 (some .int) rm_J9_floorMod_7cf53 (emPI σ) [.int x0, .int x1] σ (f_J9_floorMod_7cf53 x0 x1 ) :=
  con_ofF hO (by decide +kernel) (Nat.le_of_ble_eq_true rfl) rfl (fun X hX _ => c_J9_floorMod_7cf53_0 hX hO hΩ   σ x0 x1)
def it_J6_bitCount_0f7a4 : List (Nat × Instr × Nat × Nat) := [(0, .iload_n 0, 1, 1), (1, .iload_n 0, 1, 2), (2, .iconst 1, 1, 3), (3, .iushr, 1, 4), (4, .ldc_w 265, 3, 7), (7, .iand, 1, 8), (8, .isub, 1, 9), (9, .istore_n 0, 1, 10), (10, .iload_n 0, 1, 11), (11, .ldc_w 266, 3, 14), (14, .iand, 1, 15), (15, .iload_n 0, 1, 16), (16, .iconst 2, 1, 17), (17, .iushr, 1, 18), (18, .ldc_w 266, 3, 21), (21, .iand, 1, 22), (22, .iadd, 1, 23), (23, .istore_n 0, 1, 24), (24, .iload_n 0, 1, 25), (25, .iload_n 0, 1, 26), (26, .iconst 4, 1, 27), (27, .iushr, 1, 28), (28, .iadd, 1, 29), (29, .ldc_w 267, 3, 32), (32, .iand, 1, 33), (33, .istore_n 0, 1, 34), (34, .iload_n 0, 1, 35), (35, .iload_n 0, 1, 36), (36, .bipush 8, 2, 38), (38, .iushr, 1, 39), (39, .iadd, 1, 40), (40, .istore_n 0, 1, 41), (41, .iload_n 0, 1, 42), (42, .iload_n 0, 1, 43), (43, .bipush 16, 2, 45), (45, .iushr, 1, 46), (46, .iadd, 1, 47), (47, .istore_n 0, 1, 48), (48, .iload_n 0, 1, 49), (49, .bipush 63, 2, 51), (51, .iand, 1, 52), (52, .ireturn, 1, 53)]
theorem id_J6_bitCount_0f7a4 : ∀ q ∈ it_J6_bitCount_0f7a4, decode cJ6_bitCount_0f7a4 q.1 = .ok (q.2.1, q.2.2.1) ∧ q.1 + q.2.2.1 = q.2.2.2 := by decide +kernel
theorem dc_J6_bitCount_0f7a4 {pc : Nat} {i : Instr} {n pc' : Nat} (j : Nat) (h : it_J6_bitCount_0f7a4[j]? = some (pc, i, n, pc')) : Dc cJ6_bitCount_0f7a4 pc i n pc' := dc_of id_J6_bitCount_0f7a4 j h
abbrev rm_J6_bitCount_0f7a4 : Room := { frames := 0, cells := 0, slots := 0, locals := 0 }
def b_J6_bitCount_0f7a4_48    (y0 : Int32)  : Option (Int32) := some (y0 &&& (63 : Int32))
set_option maxHeartbeats 4000000 in
set_option maxRecDepth 20000 in
theorem c_J6_bitCount_0f7a4_48 {X : CX} {Ω : OM} (hX : CF X Ω RJ6 cJ6_bitCount_0f7a4 1 (some .int) rm_J6_bitCount_0f7a4) (hO : OKO Ω) (hΩ : oSH Ω = SHX)   (σ : MS)   (y0 : Int32)   : GE X Ω 1 0 0 (emPI σ) 0 0 48 [(0, .int y0)] [] σ (b_J6_bitCount_0f7a4_48  y0) := by
  unfold b_J6_bitCount_0f7a4_48
  refine g_iload_n hX (dc_J6_bitCount_0f7a4 38 rfl) rfl 0 rfl ?_
  refine g_bipush (w := (63 : Int32)) hX (dc_J6_bitCount_0f7a4 39 rfl) (by decide) ?_
  refine g_iand hX (dc_J6_bitCount_0f7a4 40 rfl) ?_
  exact g_iret hX (dc_J6_bitCount_0f7a4 41 rfl) rfl rfl (Nat.le_refl _) (Nat.le_refl _)
def b_J6_bitCount_0f7a4_41    (y0 : Int32)  : Option (Int32) := (b_J6_bitCount_0f7a4_48 ((y0 + ((y0).toUInt32 >>> (((16 : Int32)).toUInt32 &&& Int32.toUInt32 31)).toInt32)))
set_option maxHeartbeats 4000000 in
set_option maxRecDepth 20000 in
theorem c_J6_bitCount_0f7a4_41 {X : CX} {Ω : OM} (hX : CF X Ω RJ6 cJ6_bitCount_0f7a4 1 (some .int) rm_J6_bitCount_0f7a4) (hO : OKO Ω) (hΩ : oSH Ω = SHX)   (σ : MS)   (y0 : Int32)   : GE X Ω 1 0 0 (emPI σ) 0 0 41 [(0, .int y0)] [] σ (b_J6_bitCount_0f7a4_41  y0) := by
  unfold b_J6_bitCount_0f7a4_41
  refine g_iload_n hX (dc_J6_bitCount_0f7a4 32 rfl) rfl 0 rfl ?_
  refine g_iload_n hX (dc_J6_bitCount_0f7a4 33 rfl) rfl 0 rfl ?_
  refine g_bipush (w := (16 : Int32)) hX (dc_J6_bitCount_0f7a4 34 rfl) (by decide) ?_
  refine g_iushr hX (dc_J6_bitCount_0f7a4 35 rfl) ?_
  refine g_iadd hX (dc_J6_bitCount_0f7a4 36 rfl) ?_
  refine g_istore_n (L' := [(0, .int (y0 + ((y0).toUInt32 >>> (((16 : Int32)).toUInt32 &&& Int32.toUInt32 31)).toInt32))]) hX (dc_J6_bitCount_0f7a4 37 rfl) rfl (by decide) rfl ?_
  exact g_sub [0] rfl (c_J6_bitCount_0f7a4_48 hX hO hΩ σ ((y0 + ((y0).toUInt32 >>> (((16 : Int32)).toUInt32 &&& Int32.toUInt32 31)).toInt32)))
def b_J6_bitCount_0f7a4_34    (y0 : Int32)  : Option (Int32) := (b_J6_bitCount_0f7a4_41 ((y0 + ((y0).toUInt32 >>> (((8 : Int32)).toUInt32 &&& Int32.toUInt32 31)).toInt32)))
set_option maxHeartbeats 4000000 in
set_option maxRecDepth 20000 in
theorem c_J6_bitCount_0f7a4_34 {X : CX} {Ω : OM} (hX : CF X Ω RJ6 cJ6_bitCount_0f7a4 1 (some .int) rm_J6_bitCount_0f7a4) (hO : OKO Ω) (hΩ : oSH Ω = SHX)   (σ : MS)   (y0 : Int32)   : GE X Ω 1 0 0 (emPI σ) 0 0 34 [(0, .int y0)] [] σ (b_J6_bitCount_0f7a4_34  y0) := by
  unfold b_J6_bitCount_0f7a4_34
  refine g_iload_n hX (dc_J6_bitCount_0f7a4 26 rfl) rfl 0 rfl ?_
  refine g_iload_n hX (dc_J6_bitCount_0f7a4 27 rfl) rfl 0 rfl ?_
  refine g_bipush (w := (8 : Int32)) hX (dc_J6_bitCount_0f7a4 28 rfl) (by decide) ?_
  refine g_iushr hX (dc_J6_bitCount_0f7a4 29 rfl) ?_
  refine g_iadd hX (dc_J6_bitCount_0f7a4 30 rfl) ?_
  refine g_istore_n (L' := [(0, .int (y0 + ((y0).toUInt32 >>> (((8 : Int32)).toUInt32 &&& Int32.toUInt32 31)).toInt32))]) hX (dc_J6_bitCount_0f7a4 31 rfl) rfl (by decide) rfl ?_
  exact g_sub [0] rfl (c_J6_bitCount_0f7a4_41 hX hO hΩ σ ((y0 + ((y0).toUInt32 >>> (((8 : Int32)).toUInt32 &&& Int32.toUInt32 31)).toInt32)))
def b_J6_bitCount_0f7a4_24    (y0 : Int32)  : Option (Int32) := (b_J6_bitCount_0f7a4_34 (((y0 + ((y0).toUInt32 >>> (((4 : Int32)).toUInt32 &&& Int32.toUInt32 31)).toInt32) &&& (252645135 : Int32))))
set_option maxHeartbeats 4000000 in
set_option maxRecDepth 20000 in
theorem c_J6_bitCount_0f7a4_24 {X : CX} {Ω : OM} (hX : CF X Ω RJ6 cJ6_bitCount_0f7a4 1 (some .int) rm_J6_bitCount_0f7a4) (hO : OKO Ω) (hΩ : oSH Ω = SHX)   (σ : MS)   (y0 : Int32)   : GE X Ω 1 0 0 (emPI σ) 0 0 24 [(0, .int y0)] [] σ (b_J6_bitCount_0f7a4_24  y0) := by
  unfold b_J6_bitCount_0f7a4_24
  refine g_iload_n hX (dc_J6_bitCount_0f7a4 18 rfl) rfl 0 rfl ?_
  refine g_iload_n hX (dc_J6_bitCount_0f7a4 19 rfl) rfl 0 rfl ?_
  refine g_iconst (w := (4 : Int32)) hX (dc_J6_bitCount_0f7a4 20 rfl) (by decide) ?_
  refine g_iushr hX (dc_J6_bitCount_0f7a4 21 rfl) ?_
  refine g_iadd hX (dc_J6_bitCount_0f7a4 22 rfl) ?_
  refine g_ldcw hX (dc_J6_bitCount_0f7a4 23 rfl) wk_J6_267 ?_
  refine g_iand hX (dc_J6_bitCount_0f7a4 24 rfl) ?_
  refine g_istore_n (L' := [(0, .int ((y0 + ((y0).toUInt32 >>> (((4 : Int32)).toUInt32 &&& Int32.toUInt32 31)).toInt32) &&& (252645135 : Int32)))]) hX (dc_J6_bitCount_0f7a4 25 rfl) rfl (by decide) rfl ?_
  exact g_sub [0] rfl (c_J6_bitCount_0f7a4_34 hX hO hΩ σ (((y0 + ((y0).toUInt32 >>> (((4 : Int32)).toUInt32 &&& Int32.toUInt32 31)).toInt32) &&& (252645135 : Int32))))
def b_J6_bitCount_0f7a4_10    (y0 : Int32)  : Option (Int32) := (b_J6_bitCount_0f7a4_24 (((y0 &&& (858993459 : Int32)) + (((y0).toUInt32 >>> (((2 : Int32)).toUInt32 &&& Int32.toUInt32 31)).toInt32 &&& (858993459 : Int32)))))
set_option maxHeartbeats 4000000 in
set_option maxRecDepth 20000 in
theorem c_J6_bitCount_0f7a4_10 {X : CX} {Ω : OM} (hX : CF X Ω RJ6 cJ6_bitCount_0f7a4 1 (some .int) rm_J6_bitCount_0f7a4) (hO : OKO Ω) (hΩ : oSH Ω = SHX)   (σ : MS)   (y0 : Int32)   : GE X Ω 1 0 0 (emPI σ) 0 0 10 [(0, .int y0)] [] σ (b_J6_bitCount_0f7a4_10  y0) := by
  unfold b_J6_bitCount_0f7a4_10
  refine g_iload_n hX (dc_J6_bitCount_0f7a4 8 rfl) rfl 0 rfl ?_
  refine g_ldcw hX (dc_J6_bitCount_0f7a4 9 rfl) wk_J6_266 ?_
  refine g_iand hX (dc_J6_bitCount_0f7a4 10 rfl) ?_
  refine g_iload_n hX (dc_J6_bitCount_0f7a4 11 rfl) rfl 0 rfl ?_
  refine g_iconst (w := (2 : Int32)) hX (dc_J6_bitCount_0f7a4 12 rfl) (by decide) ?_
  refine g_iushr hX (dc_J6_bitCount_0f7a4 13 rfl) ?_
  refine g_ldcw hX (dc_J6_bitCount_0f7a4 14 rfl) wk_J6_266 ?_
  refine g_iand hX (dc_J6_bitCount_0f7a4 15 rfl) ?_
  refine g_iadd hX (dc_J6_bitCount_0f7a4 16 rfl) ?_
  refine g_istore_n (L' := [(0, .int ((y0 &&& (858993459 : Int32)) + (((y0).toUInt32 >>> (((2 : Int32)).toUInt32 &&& Int32.toUInt32 31)).toInt32 &&& (858993459 : Int32))))]) hX (dc_J6_bitCount_0f7a4 17 rfl) rfl (by decide) rfl ?_
  exact g_sub [0] rfl (c_J6_bitCount_0f7a4_24 hX hO hΩ σ (((y0 &&& (858993459 : Int32)) + (((y0).toUInt32 >>> (((2 : Int32)).toUInt32 &&& Int32.toUInt32 31)).toInt32 &&& (858993459 : Int32)))))
def b_J6_bitCount_0f7a4_0   (x0 : Int32)   : Option (Int32) := (b_J6_bitCount_0f7a4_10 ((x0 - (((x0).toUInt32 >>> (((1 : Int32)).toUInt32 &&& Int32.toUInt32 31)).toInt32 &&& (1431655765 : Int32)))))
set_option maxHeartbeats 4000000 in
set_option maxRecDepth 20000 in
theorem c_J6_bitCount_0f7a4_0 {X : CX} {Ω : OM} (hX : CF X Ω RJ6 cJ6_bitCount_0f7a4 1 (some .int) rm_J6_bitCount_0f7a4) (hO : OKO Ω) (hΩ : oSH Ω = SHX)   (σ : MS)  (x0 : Int32)    : GE X Ω 1 0 0 (emPI σ) 0 0 0 [(0, .int x0)] [] σ (b_J6_bitCount_0f7a4_0  x0) := by
  unfold b_J6_bitCount_0f7a4_0
  refine g_iload_n hX (dc_J6_bitCount_0f7a4 0 rfl) rfl 0 rfl ?_
  refine g_iload_n hX (dc_J6_bitCount_0f7a4 1 rfl) rfl 0 rfl ?_
  refine g_iconst (w := (1 : Int32)) hX (dc_J6_bitCount_0f7a4 2 rfl) (by decide) ?_
  refine g_iushr hX (dc_J6_bitCount_0f7a4 3 rfl) ?_
  refine g_ldcw hX (dc_J6_bitCount_0f7a4 4 rfl) wk_J6_265 ?_
  refine g_iand hX (dc_J6_bitCount_0f7a4 5 rfl) ?_
  refine g_isub hX (dc_J6_bitCount_0f7a4 6 rfl) ?_
  refine g_istore_n (L' := [(0, .int (x0 - (((x0).toUInt32 >>> (((1 : Int32)).toUInt32 &&& Int32.toUInt32 31)).toInt32 &&& (1431655765 : Int32))))]) hX (dc_J6_bitCount_0f7a4 7 rfl) rfl (by decide) rfl ?_
  exact g_sub [0] rfl (c_J6_bitCount_0f7a4_10 hX hO hΩ σ ((x0 - (((x0).toUInt32 >>> (((1 : Int32)).toUInt32 &&& Int32.toUInt32 31)).toInt32 &&& (1431655765 : Int32)))))
def f_J6_bitCount_0f7a4 (x0 : Int32)  : Option (Int32) := b_J6_bitCount_0f7a4_0  x0 
theorem con_J6_bitCount_0f7a4 {Ω : OM} (hO : OKO Ω) (hΩ : oSH Ω = SHX) (x0 : Int32) (σ : MS)  : Con Ω yJ6_bitCount_0f7a4 cJ6_bitCount_0f7a4 1 (some .int) rm_J6_bitCount_0f7a4 (emPI σ) [.int x0] σ (f_J6_bitCount_0f7a4 x0 ) :=
  con_ofF hO (by decide +kernel) (Nat.le_of_ble_eq_true rfl) rfl (fun X hX _ => c_J6_bitCount_0f7a4_0 hX hO hΩ   σ x0)
def it_X8_load : List (Nat × Instr × Nat × Nat) := [(0, .iconst 0, 1, 1), (1, .istore_n 2, 1, 2), (2, .iconst 0, 1, 3), (3, .istore_n 3, 1, 4), (4, .iload_n 3, 1, 5), (5, .bipush 6, 2, 7), (7, .if_icmp .ge 22, 3, 10), (10, .aload_n 0, 1, 11), (11, .getfield 9, 3, 14), (14, .iload_n 3, 1, 15), (15, .iaload, 1, 16), (16, .iload_n 1, 1, 17), (17, .if_icmp .ne 6, 3, 20), (20, .iinc 2 1, 3, 23), (23, .iinc 3 1, 3, 26), (26, .goto (-22), 3, 29), (29, .iload_n 2, 1, 30), (30, .ireturn, 1, 31)]
theorem id_X8_load : ∀ q ∈ it_X8_load, decode cX8_load q.1 = .ok (q.2.1, q.2.2.1) ∧ q.1 + q.2.2.1 = q.2.2.2 := by decide +kernel
theorem dc_X8_load {pc : Nat} {i : Instr} {n pc' : Nat} (j : Nat) (h : it_X8_load[j]? = some (pc, i, n, pc')) : Dc cX8_load pc i n pc' := dc_of id_X8_load j h
abbrev rm_X8_load : Room := { frames := 0, cells := 0, slots := 0, locals := 0 }
def b_X8_load_23 (a0 : Nat) (k4 : Int32 → Int32 → Int32 → MS → Option (Int32))  (y1 : Int32) (y2 : Int32) (y3 : Int32) (σ : MS) : Option (Int32) := (k4 (y1) (y2) ((y3 + (1 : Int32))) σ)
set_option maxHeartbeats 4000000 in
set_option maxRecDepth 20000 in
theorem c_X8_load_23 {X : CX} {Ω : OM} (hX : CF X Ω RX8 cX8_load 4 (some .int) rm_X8_load) (hO : OKO Ω) (hΩ : oSH Ω = SHX) (a0 : Nat) (ha0 : sRt Ω a0 shState) (σ : MS) (k4 : Int32 → Int32 → Int32 → MS → Option (Int32)) (hk4 : ∀ (y1 : Int32) (y2 : Int32) (y3 : Int32), GE X Ω 4 0 0 (emPI σ) 0 0 4 [(0, .ref a0), (1, .int y1), (2, .int y2), (3, .int y3)] [] σ (k4 y1 y2 y3 σ))  (y1 : Int32) (y2 : Int32) (y3 : Int32)   : GE X Ω 4 0 0 (emPI σ) 0 0 23 [(0, .ref a0), (1, .int y1), (2, .int y2), (3, .int y3)] [] σ (b_X8_load_23 a0 k4 y1 y2 y3 σ) := by
  unfold b_X8_load_23
  refine g_iinc (w := (y3 + (1 : Int32))) (L' := [(3, .int (y3 + (1 : Int32))), (0, .ref a0), (1, .int y1), (2, .int y2)]) hX (dc_X8_load 14 rfl) 3 rfl rfl (by decide) rfl ?_
  refine g_goto (tgt := 4) hX (dc_X8_load 15 rfl) (by decide) ?_
  exact g_sub [1, 2, 3, 0] rfl (hk4 (y1) (y2) ((y3 + (1 : Int32))) )
def b_X8_load_4 (a0 : Nat)  : Nat → Int32 → Int32 → Int32 → MS → Option (Int32)
  | 0, _, _, _, _ => none
  | n + 1, y1, y2, y3, σ => (if (6 : Int32) ≤ y3 then some y2 else chk (inb y3 6) ((if (sI σ (a0 + 1) (ix y3)) = y1 then (b_X8_load_23 a0 (b_X8_load_4 a0 n) (y1) ((y2 + (1 : Int32))) (y3) σ) else (b_X8_load_23 a0 (b_X8_load_4 a0 n) (y1) (y2) (y3) σ))))
set_option maxHeartbeats 4000000 in
set_option maxRecDepth 20000 in
theorem c_X8_load_4 {X : CX} {Ω : OM} (hX : CF X Ω RX8 cX8_load 4 (some .int) rm_X8_load) (hO : OKO Ω) (hΩ : oSH Ω = SHX) (a0 : Nat) (ha0 : sRt Ω a0 shState) (σ : MS)  : ∀ (n : Nat) (y1 : Int32) (y2 : Int32) (y3 : Int32)  , GE X Ω 4 0 0 (emPI σ) 0 0 4 [(0, .ref a0), (1, .int y1), (2, .int y2), (3, .int y3)] [] σ (b_X8_load_4 a0 n y1 y2 y3 σ)
  | 0, _, _, _ => g_none
  | n + 1, y1, y2, y3 => by
    have hk4 := c_X8_load_4 hX hO hΩ a0 ha0 σ n
    unfold b_X8_load_4
    refine g_iload_n hX (dc_X8_load 4 rfl) rfl 3 rfl ?_
    refine g_bipush (w := (6 : Int32)) hX (dc_X8_load 5 rfl) (by decide) ?_
    refine g_icmp_ge (tgt := 29) hX (dc_X8_load 6 rfl) (by decide) (fun h4 => ?_) (fun h4 => ?_)
    · refine g_iload_n hX (dc_X8_load 16 rfl) rfl 2 rfl ?_
      exact g_iret hX (dc_X8_load 17 rfl) rfl rfl (Nat.le_refl _) (Nat.le_refl _)
    · refine g_aload_n hX (dc_X8_load 7 rfl) rfl 0 rfl ?_
      refine g_getF (q := (a0 + 1)) hX (dc_X8_load 8 rfl) fl_X8_9 (by decide) rfl (ha0.tf 0 rfl) rfl ?_
      refine g_iload_n hX (dc_X8_load 9 rfl) rfl 3 rfl ?_
      refine g_chk (fun hc5 => ?_)
      refine g_iald hX (dc_X8_load 10 rfl) (ha0.tf 1 rfl) hc5 rfl ?_
      refine g_iload_n hX (dc_X8_load 11 rfl) rfl 1 rfl ?_
      refine g_icmp_ne (tgt := 23) hX (dc_X8_load 12 rfl) (by decide) (fun h6 => ?_) (fun h6 => ?_)
      · refine g_iinc (w := (y2 + (1 : Int32))) (L' := [(2, .int (y2 + (1 : Int32))), (0, .ref a0), (1, .int y1), (3, .int y3)]) hX (dc_X8_load 13 rfl) 2 rfl rfl (by decide) rfl ?_
        exact g_sub [1, 2, 0, 3] rfl (c_X8_load_23 hX hO hΩ a0 ha0 σ _ hk4 (y1) ((y2 + (1 : Int32))) (y3))
      · exact g_sub [0, 1, 2, 3] rfl (c_X8_load_23 hX hO hΩ a0 ha0 σ _ hk4 (y1) (y2) (y3))
def b_X8_load_0 (a0 : Nat)  (x1 : Int32)  (σ : MS) : Option (Int32) := (b_X8_load_4 a0 FU (x1) ((0 : Int32)) ((0 : Int32)) σ)
set_option maxHeartbeats 4000000 in
set_option maxRecDepth 20000 in
theorem c_X8_load_0 {X : CX} {Ω : OM} (hX : CF X Ω RX8 cX8_load 4 (some .int) rm_X8_load) (hO : OKO Ω) (hΩ : oSH Ω = SHX) (a0 : Nat) (ha0 : sRt Ω a0 shState) (σ : MS)  (x1 : Int32)    : GE X Ω 4 0 0 (emPI σ) 0 0 0 [(0, .ref a0), (1, .int x1)] [] σ (b_X8_load_0 a0 x1 σ) := by
  unfold b_X8_load_0
  refine g_iconst (w := (0 : Int32)) hX (dc_X8_load 0 rfl) (by decide) ?_
  refine g_istore_n (L' := [(2, .int (0 : Int32)), (0, .ref a0), (1, .int x1)]) hX (dc_X8_load 1 rfl) rfl (by decide) rfl ?_
  refine g_iconst (w := (0 : Int32)) hX (dc_X8_load 2 rfl) (by decide) ?_
  refine g_istore_n (L' := [(3, .int (0 : Int32)), (2, .int (0 : Int32)), (0, .ref a0), (1, .int x1)]) hX (dc_X8_load 3 rfl) rfl (by decide) rfl ?_
  exact g_sub [2, 3, 1, 0] rfl (c_X8_load_4 hX hO hΩ a0 ha0 σ FU (x1) ((0 : Int32)) ((0 : Int32)))
def f_X8_load (a0 : Nat) (x1 : Int32) (σ : MS) : Option (Int32) := b_X8_load_0 a0 x1 σ
theorem con_X8_load {Ω : OM} (hO : OKO Ω) (hΩ : oSH Ω = SHX) (a0 : Nat) (x1 : Int32) (σ : MS) (ha0 : sRt Ω a0 shState) : Con Ω yX8_load cX8_load 4 (some .int) rm_X8_load (emPI σ) [.ref a0, .int x1] σ (f_X8_load a0 x1 σ) :=
  con_of hO (by decide +kernel) (Nat.le_of_ble_eq_true rfl) rfl (fun X hX _ => c_X8_load_0 hX hO hΩ a0 ha0 σ x1)
def it_X8_sneakedBit : List (Nat × Instr × Nat × Nat) := [(0, .aload_n 0, 1, 1), (1, .getfield 27, 3, 4), (4, .iload_n 1, 1, 5), (5, .ishr, 1, 6), (6, .iconst 1, 1, 7), (7, .iand, 1, 8), (8, .ireturn, 1, 9)]
theorem id_X8_sneakedBit : ∀ q ∈ it_X8_sneakedBit, decode cX8_sneakedBit q.1 = .ok (q.2.1, q.2.2.1) ∧ q.1 + q.2.2.1 = q.2.2.2 := by decide +kernel
theorem dc_X8_sneakedBit {pc : Nat} {i : Instr} {n pc' : Nat} (j : Nat) (h : it_X8_sneakedBit[j]? = some (pc, i, n, pc')) : Dc cX8_sneakedBit pc i n pc' := dc_of id_X8_sneakedBit j h
abbrev rm_X8_sneakedBit : Room := { frames := 0, cells := 0, slots := 0, locals := 0 }
def b_X8_sneakedBit_0 (a0 : Nat)  (x1 : Int32)  (σ : MS) : Option (Int32) := some (((sI σ a0 3) >>> (x1 &&& 31)) &&& (1 : Int32))
set_option maxHeartbeats 4000000 in
set_option maxRecDepth 20000 in
theorem c_X8_sneakedBit_0 {X : CX} {Ω : OM} (hX : CF X Ω RX8 cX8_sneakedBit 2 (some .int) rm_X8_sneakedBit) (hO : OKO Ω) (hΩ : oSH Ω = SHX) (a0 : Nat) (ha0 : sRt Ω a0 shState) (σ : MS)  (x1 : Int32)    : GE X Ω 2 0 0 (emPI σ) 0 0 0 [(0, .ref a0), (1, .int x1)] [] σ (b_X8_sneakedBit_0 a0 x1 σ) := by
  unfold b_X8_sneakedBit_0
  refine g_aload_n hX (dc_X8_sneakedBit 0 rfl) rfl 0 rfl ?_
  refine g_getI hX (dc_X8_sneakedBit 1 rfl) fl_X8_27 (by decide) rfl (ha0.tf 0 rfl) ?_
  refine g_iload_n hX (dc_X8_sneakedBit 2 rfl) rfl 1 rfl ?_
  refine g_ishr hX (dc_X8_sneakedBit 3 rfl) ?_
  refine g_iconst (w := (1 : Int32)) hX (dc_X8_sneakedBit 4 rfl) (by decide) ?_
  refine g_iand hX (dc_X8_sneakedBit 5 rfl) ?_
  exact g_iret hX (dc_X8_sneakedBit 6 rfl) rfl rfl (Nat.le_refl _) (Nat.le_refl _)
def f_X8_sneakedBit (a0 : Nat) (x1 : Int32) (σ : MS) : Option (Int32) := b_X8_sneakedBit_0 a0 x1 σ
theorem con_X8_sneakedBit {Ω : OM} (hO : OKO Ω) (hΩ : oSH Ω = SHX) (a0 : Nat) (x1 : Int32) (σ : MS) (ha0 : sRt Ω a0 shState) : Con Ω yX8_sneakedBit cX8_sneakedBit 2 (some .int) rm_X8_sneakedBit (emPI σ) [.ref a0, .int x1] σ (f_X8_sneakedBit a0 x1 σ) :=
  con_of hO (by decide +kernel) (Nat.le_of_ble_eq_true rfl) rfl (fun X hX _ => c_X8_sneakedBit_0 hX hO hΩ a0 ha0 σ x1)
def it_X8_lay : List (Nat × Instr × Nat × Nat) := [(0, .aload_n 0, 1, 1), (1, .getfield 9, 3, 4), (4, .iload_n 1, 1, 5), (5, .iconst (-1), 1, 6), (6, .iastore, 1, 7), (7, .aload_n 0, 1, 8), (8, .dup, 1, 9), (9, .getfield 27, 3, 12), (12, .iconst 1, 1, 13), (13, .iload_n 1, 1, 14), (14, .ishl, 1, 15), (15, .iconst (-1), 1, 16), (16, .ixor, 1, 17), (17, .iand, 1, 18), (18, .putfield 27, 3, 21), (21, .return_, 1, 22)]
theorem id_X8_lay : ∀ q ∈ it_X8_lay, decode cX8_lay q.1 = .ok (q.2.1, q.2.2.1) ∧ q.1 + q.2.2.1 = q.2.2.2 := by decide +kernel
theorem dc_X8_lay {pc : Nat} {i : Instr} {n pc' : Nat} (j : Nat) (h : it_X8_lay[j]? = some (pc, i, n, pc')) : Dc cX8_lay pc i n pc' := dc_of id_X8_lay j h
abbrev rm_X8_lay : Room := { frames := 0, cells := 0, slots := 0, locals := 0 }
def b_X8_lay_0 (a0 : Nat)  (x1 : Int32)  (σ : MS) : Option (MS) := chk (inb x1 6) (some ((wI (wI σ (a0 + 1) (ix x1) (-1 : Int32)) a0 3 ((sI (wI σ (a0 + 1) (ix x1) (-1 : Int32)) a0 3) &&& (((1 : Int32) <<< (x1 &&& 31)) ^^^ (-1 : Int32))))))
set_option maxHeartbeats 4000000 in
set_option maxRecDepth 20000 in
theorem c_X8_lay_0 {X : CX} {Ω : OM} (hX : CF X Ω RX8 cX8_lay 2 none rm_X8_lay) (hO : OKO Ω) (hΩ : oSH Ω = SHX) (a0 : Nat) (ha0 : sRt Ω a0 shState)  (x1 : Int32)  (σ : MS)  : GE X Ω 2 0 0 (emWV) 0 0 0 [(0, .ref a0), (1, .int x1)] [] σ (b_X8_lay_0 a0 x1 σ) := by
  unfold b_X8_lay_0
  refine g_aload_n hX (dc_X8_lay 0 rfl) rfl 0 rfl ?_
  refine g_getF (q := (a0 + 1)) hX (dc_X8_lay 1 rfl) fl_X8_9 (by decide) rfl (ha0.tf 0 rfl) rfl ?_
  refine g_iload_n hX (dc_X8_lay 2 rfl) rfl 1 rfl ?_
  refine g_iconst (w := (-1 : Int32)) hX (dc_X8_lay 3 rfl) (by decide) ?_
  refine g_chk (fun hc2 => ?_)
  refine g_iast hX (dc_X8_lay 4 rfl) (ha0.tf 1 rfl) hc2 rfl ?_
  refine g_aload_n hX (dc_X8_lay 5 rfl) rfl 0 rfl ?_
  refine g_dup hX (dc_X8_lay 6 rfl) rfl ?_
  refine g_getI hX (dc_X8_lay 7 rfl) fl_X8_27 (by decide) rfl (ha0.tf 0 rfl) ?_
  refine g_iconst (w := (1 : Int32)) hX (dc_X8_lay 8 rfl) (by decide) ?_
  refine g_iload_n hX (dc_X8_lay 9 rfl) rfl 1 rfl ?_
  refine g_ishl hX (dc_X8_lay 10 rfl) ?_
  refine g_iconst (w := (-1 : Int32)) hX (dc_X8_lay 11 rfl) (by decide) ?_
  refine g_ixor hX (dc_X8_lay 12 rfl) ?_
  refine g_iand hX (dc_X8_lay 13 rfl) ?_
  refine g_putI (raw := false) hX (dc_X8_lay 14 rfl) fl_X8_27 (by decide) ⟨rfl, rfl⟩ ⟨rfl, rfl⟩ (ha0.tf 0 rfl) ?_
  exact g_vret hX (dc_X8_lay 15 rfl) rfl (Nat.le_refl _) (Nat.le_refl _)
def f_X8_lay (a0 : Nat) (x1 : Int32) (σ : MS) : Option (MS) := b_X8_lay_0 a0 x1 σ
theorem con_X8_lay {Ω : OM} (hO : OKO Ω) (hΩ : oSH Ω = SHX) (a0 : Nat) (x1 : Int32) (σ : MS) (ha0 : sRt Ω a0 shState) : Con Ω yX8_lay cX8_lay 2 none rm_X8_lay (emWV) [.ref a0, .int x1] σ (f_X8_lay a0 x1 σ) :=
  con_of hO (by decide +kernel) (Nat.le_of_ble_eq_true rfl) rfl (fun X hX _ => c_X8_lay_0 hX hO hΩ a0 ha0 x1 σ )
