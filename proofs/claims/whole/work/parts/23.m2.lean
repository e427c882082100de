def it_X12_force : List (Nat × Instr × Nat × Nat) := [(0, .iload_n 1, 1, 1), (1, .i2l, 1, 2), (2, .ldc2_w 367, 3, 5), (5, .aload_n 0, 1, 6), (6, .getfield 361, 3, 9), (9, .iconst 1, 1, 10), (10, .isub, 1, 11), (11, .i2l, 1, 12), (12, .invokestatic 161, 3, 15), (15, .ifCond .ne 6, 3, 18), (18, .bipush (-2), 2, 20), (20, .ireturn, 1, 21), (21, .aload_n 0, 1, 22), (22, .getfield 9, 3, 25), (25, .bipush 9, 2, 27), (27, .iaload, 1, 28), (28, .istore_n 2, 1, 29), (29, .aload_n 0, 1, 30), (30, .getfield 9, 3, 33), (33, .bipush 9, 2, 35), (35, .iload_n 1, 1, 36), (36, .iastore, 1, 37), (37, .iload_n 2, 1, 38), (38, .ireturn, 1, 39)]
theorem id_X12_force : ∀ q ∈ it_X12_force, decode cX12_force q.1 = .ok (q.2.1, q.2.2.1) ∧ q.1 + q.2.2.1 = q.2.2.2 := by decide +kernel
theorem dc_X12_force {pc : Nat} {i : Instr} {n pc' : Nat} (j : Nat) (h : it_X12_force[j]? = some (pc, i, n, pc')) : Dc cX12_force pc i n pc' := dc_of id_X12_force j h
abbrev rm_X12_force : Room := { frames := 1, cells := 0, slots := 0, locals := 25 }
def b_X12_force_0   (x1 : Int32)  (σ : MS) : Option (Int32 × MS) := (f_X12_in (x1).toInt64 (-1 : Int64) (((sI σ 0 33) - (1 : Int32))).toInt64).bind (fun r3 => (if r3 = 0 then some ((-2 : Int32), σ) else some ((sI σ 1 9), (wI σ 1 9 x1))))
set_option maxHeartbeats 4000000 in
set_option maxRecDepth 20000 in
theorem c_X12_force_0 {X : CX} {Ω : OM} (hX : CF X Ω RX12 cX12_force 3 (some .int) rm_X12_force) (hO : OKO Ω) (hΩ : oSH Ω = SHM)    (x1 : Int32)  (σ : MS)  : GE X Ω 3 0 0 (emWI) 0 0 0 [(0, .ref 0), (1, .int x1)] [] σ (b_X12_force_0  x1 σ) := by
  unfold b_X12_force_0
  refine g_iload_n hX (dc_X12_force 0 rfl) rfl 1 rfl ?_
  refine g_i2l hX (dc_X12_force 1 rfl) ?_
  refine g_ldc2 hX (dc_X12_force 2 rfl) wk_X12_367 ?_
  refine g_aload_n hX (dc_X12_force 3 rfl) rfl 0 rfl ?_
  refine g_getI hX (dc_X12_force 4 rfl) fl_X12_361 (by decide) rfl (stS hΩ 0 rfl) ?_
  refine g_iconst (w := (1 : Int32)) hX (dc_X12_force 5 rfl) (by decide) ?_
  refine g_isub hX (dc_X12_force 6 rfl) ?_
  refine g_i2l hX (dc_X12_force 7 rfl) ?_
  refine gS_PI (As := [.long (x1).toInt64, .long (-1 : Int64), .long (((sI σ 0 33) - (1 : Int32))).toInt64]) (st := []) hX (dc_X12_force 8 rfl) ml_X12_161 (con_X12_in hO hΩ (x1).toInt64 (-1 : Int64) (((sI σ 0 33) - (1 : Int32))).toInt64 σ) rfl rfl ⟨by decide, by decide⟩ ⟨rfl, rfl⟩ ⟨Nat.zero_le _, Nat.zero_le _⟩ (Nat.le_of_ble_eq_true rfl) (fun r3 _ => ?_)
  refine g_if_ne (tgt := 21) hX (dc_X12_force 9 rfl) (by decide) (fun h4 => ?_) (fun h4 => ?_)
  · refine g_bipush (w := (-2 : Int32)) hX (dc_X12_force 10 rfl) (by decide) ?_
    exact g_iret hX (dc_X12_force 11 rfl) rfl rfl (Nat.le_refl _) (Nat.le_refl _)
  · refine g_aload_n hX (dc_X12_force 12 rfl) rfl 0 rfl ?_
    refine g_getF (q := 1) hX (dc_X12_force 13 rfl) fl_X12_9 (by decide) rfl (stS hΩ 0 rfl) rfl ?_
    refine g_bipush (w := (9 : Int32)) hX (dc_X12_force 14 rfl) (by decide) ?_
    refine g_iald (j := 9) hX (dc_X12_force 15 rfl) (stS hΩ 1 rfl) (by decide) (by decide) ?_
    refine g_istore_n (L' := [(2, .int (sI σ 1 9)), (0, .ref 0), (1, .int x1)]) hX (dc_X12_force 16 rfl) rfl (by decide) rfl ?_
    refine g_aload_n hX (dc_X12_force 17 rfl) rfl 1 rfl ?_
    refine g_getF (q := 1) hX (dc_X12_force 18 rfl) fl_X12_9 (by decide) rfl (stS hΩ 0 rfl) rfl ?_
    refine g_bipush (w := (9 : Int32)) hX (dc_X12_force 19 rfl) (by decide) ?_
    refine g_iload_n hX (dc_X12_force 20 rfl) rfl 2 rfl ?_
    refine g_iast (j := 9) hX (dc_X12_force 21 rfl) (stS hΩ 1 rfl) (by decide) (by decide) ?_
    refine g_iload_n hX (dc_X12_force 22 rfl) rfl 0 rfl ?_
    exact g_iret hX (dc_X12_force 23 rfl) rfl rfl (Nat.le_refl _) (Nat.le_refl _)
def f_X12_force (x1 : Int32) (σ : MS) : Option (Int32 × MS) := b_X12_force_0  x1 σ
theorem con_X12_force {Ω : OM} (hO : OKO Ω) (hΩ : oSH Ω = SHM) (x1 : Int32) (σ : MS)  : Con Ω yX12_force cX12_force 3 (some .int) rm_X12_force (emWI) [.ref 0, .int x1] σ (f_X12_force x1 σ) :=
  con_of hO (by decide +kernel) (Nat.le_of_ble_eq_true rfl) rfl (fun X hX _ => c_X12_force_0 hX hO hΩ   x1 σ )
def it_X12_truth : List (Nat × Instr × Nat × Nat) := [(0, .iload_n 0, 1, 1), (1, .ifCond .eq 7, 3, 4), (4, .lconst 1, 1, 5), (5, .goto 4, 3, 8), (8, .lconst 0, 1, 9), (9, .lreturn, 1, 10)]
theorem id_X12_truth : ∀ q ∈ it_X12_truth, decode cX12_truth q.1 = .ok (q.2.1, q.2.2.1) ∧ q.1 + q.2.2.1 = q.2.2.2 := by decide +kernel
theorem dc_X12_truth {pc : Nat} {i : Instr} {n pc' : Nat} (j : Nat) (h : it_X12_truth[j]? = some (pc, i, n, pc')) : Dc cX12_truth pc i n pc' := dc_of id_X12_truth j h
abbrev rm_X12_truth : Room := { frames := 0, cells := 0, slots := 0, locals := 0 }
def b_X12_truth_9    (s0 : Int64)  : Option (Int64) := some s0
set_option maxHeartbeats 4000000 in
set_option maxRecDepth 20000 in
theorem c_X12_truth_9 {X : CX} {Ω : OM} (hX : CF X Ω RX12 cX12_truth 1 (some .long) rm_X12_truth) (hO : OKO Ω) (hΩ : oSH Ω = SHM)   (σ : MS)   (s0 : Int64)   : GE X Ω 1 0 0 (emPL σ) 0 0 9 [] [.long s0] σ (b_X12_truth_9  s0) := by
  unfold b_X12_truth_9
  exact g_lret hX (dc_X12_truth 5 rfl) rfl (Nat.le_refl _) (Nat.le_refl _)
def b_X12_truth_0   (x0 : Int32)   : Option (Int64) := (if x0 = 0 then (b_X12_truth_9 ((0 : Int64))) else (b_X12_truth_9 ((1 : Int64))))
set_option maxHeartbeats 4000000 in
set_option maxRecDepth 20000 in
theorem c_X12_truth_0 {X : CX} {Ω : OM} (hX : CF X Ω RX12 cX12_truth 1 (some .long) rm_X12_truth) (hO : OKO Ω) (hΩ : oSH Ω = SHM)   (σ : MS)  (x0 : Int32)    : GE X Ω 1 0 0 (emPL σ) 0 0 0 [(0, .int x0)] [] σ (b_X12_truth_0  x0) := by
  unfold b_X12_truth_0
  refine g_iload_n hX (dc_X12_truth 0 rfl) rfl 0 rfl ?_
  refine g_if_eq (tgt := 8) hX (dc_X12_truth 1 rfl) (by decide) (fun h2 => ?_) (fun h2 => ?_)
  · refine g_lconst (w := (0 : Int64)) hX (dc_X12_truth 4 rfl) (by decide) ?_
    exact g_sub [] rfl (c_X12_truth_9 hX hO hΩ σ ((0 : Int64)))
  · refine g_lconst (w := (1 : Int64)) hX (dc_X12_truth 2 rfl) (by decide) ?_
    refine g_goto (tgt := 9) hX (dc_X12_truth 3 rfl) (by decide) ?_
    exact g_sub [] rfl (c_X12_truth_9 hX hO hΩ σ ((1 : Int64)))
def f_X12_truth (x0 : Int32)  : Option (Int64) := b_X12_truth_0  x0 
theorem con_X12_truth {Ω : OM} (hO : OKO Ω) (hΩ : oSH Ω = SHM) (x0 : Int32) (σ : MS)  : Con Ω yX12_truth cX12_truth 1 (some .long) rm_X12_truth (emPL σ) [.int x0] σ (f_X12_truth x0 ) :=
  con_of hO (by decide +kernel) (Nat.le_of_ble_eq_true rfl) rfl (fun X hX _ => c_X12_truth_0 hX hO hΩ   σ x0)
def it_X12_both : List (Nat × Instr × Nat × Nat) := [(0, .iload_n 0, 1, 1), (1, .tableswitch 190 2 15 #[71, 75, 111, 126, 141, 156, 171, 190, 186, 190, 190, 79, 83, 97], 71, 72), (72, .lload_n 1, 1, 73), (73, .lload_n 3, 1, 74), (74, .ladd, 1, 75), (75, .lreturn, 1, 76), (76, .lload_n 1, 1, 77), (77, .lload_n 3, 1, 78), (78, .lsub, 1, 79), (79, .lreturn, 1, 80), (80, .lload_n 1, 1, 81), (81, .lload_n 3, 1, 82), (82, .lmul, 1, 83), (83, .lreturn, 1, 84), (84, .lload_n 3, 1, 85), (85, .lconst 0, 1, 86), (86, .lcmp, 1, 87), (87, .ifCond .ne 7, 3, 90), (90, .lconst 0, 1, 91), (91, .goto 6, 3, 94), (94, .lload_n 1, 1, 95), (95, .lload_n 3, 1, 96), (96, .ldiv, 1, 97), (97, .lreturn, 1, 98), (98, .lload_n 3, 1, 99), (99, .lconst 0, 1, 100), (100, .lcmp, 1, 101), (101, .ifCond .ne 7, 3, 104), (104, .lconst 0, 1, 105), (105, .goto 6, 3, 108), (108, .lload_n 1, 1, 109), (109, .lload_n 3, 1, 110), (110, .lrem, 1, 111), (111, .lreturn, 1, 112), (112, .lload_n 1, 1, 113), (113, .lload_n 3, 1, 114), (114, .lcmp, 1, 115), (115, .ifCond .ge 7, 3, 118), (118, .iconst 1, 1, 119), (119, .goto 4, 3, 122), (122, .iconst 0, 1, 123), (123, .invokestatic 373, 3, 126), (126, .lreturn, 1, 127), (127, .lload_n 1, 1, 128), (128, .lload_n 3, 1, 129), (129, .lcmp, 1, 130), (130, .ifCond .gt 7, 3, 133), (133, .iconst 1, 1, 134), (134, .goto 4, 3, 137), (137, .iconst 0, 1, 138), (138, .invokestatic 373, 3, 141), (141, .lreturn, 1, 142), (142, .lload_n 1, 1, 143), (143, .lload_n 3, 1, 144), (144, .lcmp, 1, 145), (145, .ifCond .ne 7, 3, 148), (148, .iconst 1, 1, 149), (149, .goto 4, 3, 152), (152, .iconst 0, 1, 153), (153, .invokestatic 373, 3, 156), (156, .lreturn, 1, 157), (157, .lload_n 1, 1, 158), (158, .lload_n 3, 1, 159), (159, .lcmp, 1, 160), (160, .ifCond .lt 7, 3, 163), (163, .iconst 1, 1, 164), (164, .goto 4, 3, 167), (167, .iconst 0, 1, 168), (168, .invokestatic 373, 3, 171), (171, .lreturn, 1, 172), (172, .lload_n 1, 1, 173), (173, .lload_n 3, 1, 174), (174, .lcmp, 1, 175), (175, .ifCond .le 7, 3, 178), (178, .iconst 1, 1, 179), (179, .goto 4, 3, 182), (182, .iconst 0, 1, 183), (183, .invokestatic 373, 3, 186), (186, .lreturn, 1, 187), (187, .lload_n 1, 1, 188), (188, .lload_n 3, 1, 189), (189, .land, 1, 190), (190, .lreturn, 1, 191), (191, .lload_n 1, 1, 192), (192, .lload_n 3, 1, 193), (193, .lor, 1, 194), (194, .lreturn, 1, 195)]
theorem id_X12_both : ∀ q ∈ it_X12_both, decode cX12_both q.1 = .ok (q.2.1, q.2.2.1) ∧ q.1 + q.2.2.1 = q.2.2.2 := by decide +kernel
theorem dc_X12_both {pc : Nat} {i : Instr} {n pc' : Nat} (j : Nat) (h : it_X12_both[j]? = some (pc, i, n, pc')) : Dc cX12_both pc i n pc' := dc_of id_X12_both j h
abbrev rm_X12_both : Room := { frames := 1, cells := 0, slots := 0, locals := 20 }
def b_X12_both_183    (s0 : Int32)  : Option (Int64) := (f_X12_truth s0).bind (fun r29 => some r29)
set_option maxHeartbeats 4000000 in
set_option maxRecDepth 20000 in
theorem c_X12_both_183 {X : CX} {Ω : OM} (hX : CF X Ω RX12 cX12_both 5 (some .long) rm_X12_both) (hO : OKO Ω) (hΩ : oSH Ω = SHM)   (σ : MS)   (s0 : Int32)   : GE X Ω 5 0 0 (emPL σ) 0 0 183 [] [.int s0] σ (b_X12_both_183  s0) := by
  unfold b_X12_both_183
  refine gS_PL (As := [.int s0]) (st := []) hX (dc_X12_both 77 rfl) ml_X12_373 (con_X12_truth hO hΩ s0 σ) rfl rfl ⟨by decide, by decide⟩ ⟨rfl, rfl⟩ ⟨Nat.zero_le _, Nat.zero_le _⟩ (Nat.le_of_ble_eq_true rfl) (fun r29 _ => ?_)
  exact g_lret hX (dc_X12_both 78 rfl) rfl (Nat.le_refl _) (Nat.le_refl _)
def b_X12_both_168    (s0 : Int32)  : Option (Int64) := (f_X12_truth s0).bind (fun r30 => some r30)
set_option maxHeartbeats 4000000 in
set_option maxRecDepth 20000 in
theorem c_X12_both_168 {X : CX} {Ω : OM} (hX : CF X Ω RX12 cX12_both 5 (some .long) rm_X12_both) (hO : OKO Ω) (hΩ : oSH Ω = SHM)   (σ : MS)   (s0 : Int32)   : GE X Ω 5 0 0 (emPL σ) 0 0 168 [] [.int s0] σ (b_X12_both_168  s0) := by
  unfold b_X12_both_168
  refine gS_PL (As := [.int s0]) (st := []) hX (dc_X12_both 68 rfl) ml_X12_373 (con_X12_truth hO hΩ s0 σ) rfl rfl ⟨by decide, by decide⟩ ⟨rfl, rfl⟩ ⟨Nat.zero_le _, Nat.zero_le _⟩ (Nat.le_of_ble_eq_true rfl) (fun r30 _ => ?_)
  exact g_lret hX (dc_X12_both 69 rfl) rfl (Nat.le_refl _) (Nat.le_refl _)
def b_X12_both_153    (s0 : Int32)  : Option (Int64) := (f_X12_truth s0).bind (fun r31 => some r31)
set_option maxHeartbeats 4000000 in
set_option maxRecDepth 20000 in
theorem c_X12_both_153 {X : CX} {Ω : OM} (hX : CF X Ω RX12 cX12_both 5 (some .long) rm_X12_both) (hO : OKO Ω) (hΩ : oSH Ω = SHM)   (σ : MS)   (s0 : Int32)   : GE X Ω 5 0 0 (emPL σ) 0 0 153 [] [.int s0] σ (b_X12_both_153  s0) := by
  unfold b_X12_both_153
  refine gS_PL (As := [.int s0]) (st := []) hX (dc_X12_both 59 rfl) ml_X12_373 (con_X12_truth hO hΩ s0 σ) rfl rfl ⟨by decide, by decide⟩ ⟨rfl, rfl⟩ ⟨Nat.zero_le _, Nat.zero_le _⟩ (Nat.le_of_ble_eq_true rfl) (fun r31 _ => ?_)
  exact g_lret hX (dc_X12_both 60 rfl) rfl (Nat.le_refl _) (Nat.le_refl _)
def b_X12_both_138    (s0 : Int32)  : Option (Int64) := (f_X12_truth s0).bind (fun r32 => some r32)
set_option maxHeartbeats 4000000 in
set_option maxRecDepth 20000 in
theorem c_X12_both_138 {X : CX} {Ω : OM} (hX : CF X Ω RX12 cX12_both 5 (some .long) rm_X12_both) (hO : OKO Ω) (hΩ : oSH Ω = SHM)   (σ : MS)   (s0 : Int32)   : GE X Ω 5 0 0 (emPL σ) 0 0 138 [] [.int s0] σ (b_X12_both_138  s0) := by
  unfold b_X12_both_138
  refine gS_PL (As := [.int s0]) (st := []) hX (dc_X12_both 50 rfl) ml_X12_373 (con_X12_truth hO hΩ s0 σ) rfl rfl ⟨by decide, by decide⟩ ⟨rfl, rfl⟩ ⟨Nat.zero_le _, Nat.zero_le _⟩ (Nat.le_of_ble_eq_true rfl) (fun r32 _ => ?_)
  exact g_lret hX (dc_X12_both 51 rfl) rfl (Nat.le_refl _) (Nat.le_refl _)
def b_X12_both_123    (s0 : Int32)  : Option (Int64) := (f_X12_truth s0).bind (fun r33 => some r33)
set_option maxHeartbeats 4000000 in
set_option maxRecDepth 20000 in
theorem c_X12_both_123 {X : CX} {Ω : OM} (hX : CF X Ω RX12 cX12_both 5 (some .long) rm_X12_both) (hO : OKO Ω) (hΩ : oSH Ω = SHM)   (σ : MS)   (s0 : Int32)   : GE X Ω 5 0 0 (emPL σ) 0 0 123 [] [.int s0] σ (b_X12_both_123  s0) := by
  unfold b_X12_both_123
  refine gS_PL (As := [.int s0]) (st := []) hX (dc_X12_both 41 rfl) ml_X12_373 (con_X12_truth hO hΩ s0 σ) rfl rfl ⟨by decide, by decide⟩ ⟨rfl, rfl⟩ ⟨Nat.zero_le _, Nat.zero_le _⟩ (Nat.le_of_ble_eq_true rfl) (fun r33 _ => ?_)
  exact g_lret hX (dc_X12_both 42 rfl) rfl (Nat.le_refl _) (Nat.le_refl _)
def b_X12_both_111    (s0 : Int64)  : Option (Int64) := some s0
set_option maxHeartbeats 4000000 in
set_option maxRecDepth 20000 in
theorem c_X12_both_111 {X : CX} {Ω : OM} (hX : CF X Ω RX12 cX12_both 5 (some .long) rm_X12_both) (hO : OKO Ω) (hΩ : oSH Ω = SHM)   (σ : MS)   (s0 : Int64)   : GE X Ω 5 0 0 (emPL σ) 0 0 111 [] [.long s0] σ (b_X12_both_111  s0) := by
  unfold b_X12_both_111
  exact g_lret hX (dc_X12_both 33 rfl) rfl (Nat.le_refl _) (Nat.le_refl _)
def b_X12_both_97    (s0 : Int64)  : Option (Int64) := some s0
set_option maxHeartbeats 4000000 in
set_option maxRecDepth 20000 in
theorem c_X12_both_97 {X : CX} {Ω : OM} (hX : CF X Ω RX12 cX12_both 5 (some .long) rm_X12_both) (hO : OKO Ω) (hΩ : oSH Ω = SHM)   (σ : MS)   (s0 : Int64)   : GE X Ω 5 0 0 (emPL σ) 0 0 97 [] [.long s0] σ (b_X12_both_97  s0) := by
  unfold b_X12_both_97
  exact g_lret hX (dc_X12_both 23 rfl) rfl (Nat.le_refl _) (Nat.le_refl _)
def b_X12_both_0   (x0 : Int32) (x1 : Int64) (x2 : Int64)   : Option (Int64) := (if x0 = (2 : Int32) then some (x1 + x2) else (if x0 = (3 : Int32) then some (x1 - x2) else (if x0 = (4 : Int32) then (if 0 ≤ (lg_cmp x1 x2) then (b_X12_both_123 ((0 : Int32))) else (b_X12_both_123 ((1 : Int32)))) else (if x0 = (5 : Int32) then (if 0 < (lg_cmp x1 x2) then (b_X12_both_138 ((0 : Int32))) else (b_X12_both_138 ((1 : Int32)))) else (if x0 = (6 : Int32) then (if (lg_cmp x1 x2) = 0 then (b_X12_both_153 ((1 : Int32))) else (b_X12_both_153 ((0 : Int32)))) else (if x0 = (7 : Int32) then (if (lg_cmp x1 x2) < 0 then (b_X12_both_168 ((0 : Int32))) else (b_X12_both_168 ((1 : Int32)))) else (if x0 = (8 : Int32) then (if (lg_cmp x1 x2) ≤ 0 then (b_X12_both_183 ((0 : Int32))) else (b_X12_both_183 ((1 : Int32)))) else (if x0 = (9 : Int32) then some (x1 ||| x2) else (if x0 = (10 : Int32) then some (x1 &&& x2) else (if x0 = (11 : Int32) then some (x1 ||| x2) else (if x0 = (12 : Int32) then some (x1 ||| x2) else (if x0 = (13 : Int32) then some (x1 * x2) else (if x0 = (14 : Int32) then (if (lg_cmp x2 (0 : Int64)) = 0 then (b_X12_both_97 ((0 : Int64))) else chk (¬ x2 = 0) ((b_X12_both_97 ((x1 / x2))))) else (if x0 = (15 : Int32) then (if (lg_cmp x2 (0 : Int64)) = 0 then (b_X12_both_111 ((0 : Int64))) else chk (¬ x2 = 0) ((b_X12_both_111 ((x1 - x1 / x2 * x2))))) else some (x1 ||| x2)))))))))))))))
set_option maxHeartbeats 4000000 in
set_option maxRecDepth 20000 in
theorem c_X12_both_0 {X : CX} {Ω : OM} (hX : CF X Ω RX12 cX12_both 5 (some .long) rm_X12_both) (hO : OKO Ω) (hΩ : oSH Ω = SHM)   (σ : MS)  (x0 : Int32) (x1 : Int64) (x2 : Int64)    : GE X Ω 5 0 0 (emPL σ) 0 0 0 [(0, .int x0), (1, .long x1), (3, .long x2)] [] σ (b_X12_both_0  x0 x1 x2) := by
  unfold b_X12_both_0
  refine g_iload_n hX (dc_X12_both 0 rfl) rfl 0 rfl ?_
  refine g_ite (fun h34 => ?_) (fun h34 => ?_)
  · refine g_tsIn (off := 71) (tgt := 72) hX (dc_X12_both 1 rfl) (by rw [h34]; decide) (by rw [h34]; decide) (by rw [h34]; rfl) (by decide) ?_
    refine g_lload_n hX (dc_X12_both 2 rfl) rfl 1 rfl ?_
    refine g_lload_n hX (dc_X12_both 3 rfl) rfl 2 rfl ?_
    refine g_ladd hX (dc_X12_both 4 rfl) ?_
    exact g_lret hX (dc_X12_both 5 rfl) rfl (Nat.le_refl _) (Nat.le_refl _)
  · refine g_ite (fun h35 => ?_) (fun h35 => ?_)
    · refine g_tsIn (off := 75) (tgt := 76) hX (dc_X12_both 1 rfl) (by rw [h35]; decide) (by rw [h35]; decide) (by rw [h35]; rfl) (by decide) ?_
      refine g_lload_n hX (dc_X12_both 6 rfl) rfl 1 rfl ?_
      refine g_lload_n hX (dc_X12_both 7 rfl) rfl 2 rfl ?_
      refine g_lsub hX (dc_X12_both 8 rfl) ?_
      exact g_lret hX (dc_X12_both 9 rfl) rfl (Nat.le_refl _) (Nat.le_refl _)
    · refine g_ite (fun h36 => ?_) (fun h36 => ?_)
      · refine g_tsIn (off := 111) (tgt := 112) hX (dc_X12_both 1 rfl) (by rw [h36]; decide) (by rw [h36]; decide) (by rw [h36]; rfl) (by decide) ?_
        refine g_lload_n hX (dc_X12_both 34 rfl) rfl 1 rfl ?_
        refine g_lload_n hX (dc_X12_both 35 rfl) rfl 2 rfl ?_
        refine g_lcmp hX (dc_X12_both 36 rfl) ?_
        refine g_if_ge (tgt := 122) hX (dc_X12_both 37 rfl) (by decide) (fun h48 => ?_) (fun h48 => ?_)
        · refine g_iconst (w := (0 : Int32)) hX (dc_X12_both 40 rfl) (by decide) ?_
          exact g_sub [] rfl (c_X12_both_123 hX hO hΩ σ ((0 : Int32)))
        · refine g_iconst (w := (1 : Int32)) hX (dc_X12_both 38 rfl) (by decide) ?_
          refine g_goto (tgt := 123) hX (dc_X12_both 39 rfl) (by decide) ?_
          exact g_sub [] rfl (c_X12_both_123 hX hO hΩ σ ((1 : Int32)))
      · refine g_ite (fun h37 => ?_) (fun h37 => ?_)
        · refine g_tsIn (off := 126) (tgt := 127) hX (dc_X12_both 1 rfl) (by rw [h37]; decide) (by rw [h37]; decide) (by rw [h37]; rfl) (by decide) ?_
          refine g_lload_n hX (dc_X12_both 43 rfl) rfl 1 rfl ?_
          refine g_lload_n hX (dc_X12_both 44 rfl) rfl 2 rfl ?_
          refine g_lcmp hX (dc_X12_both 45 rfl) ?_
          refine g_if_gt (tgt := 137) hX (dc_X12_both 46 rfl) (by decide) (fun h49 => ?_) (fun h49 => ?_)
          · refine g_iconst (w := (0 : Int32)) hX (dc_X12_both 49 rfl) (by decide) ?_
            exact g_sub [] rfl (c_X12_both_138 hX hO hΩ σ ((0 : Int32)))
          · refine g_iconst (w := (1 : Int32)) hX (dc_X12_both 47 rfl) (by decide) ?_
            refine g_goto (tgt := 138) hX (dc_X12_both 48 rfl) (by decide) ?_
            exact g_sub [] rfl (c_X12_both_138 hX hO hΩ σ ((1 : Int32)))
        · refine g_ite (fun h38 => ?_) (fun h38 => ?_)
          · refine g_tsIn (off := 141) (tgt := 142) hX (dc_X12_both 1 rfl) (by rw [h38]; decide) (by rw [h38]; decide) (by rw [h38]; rfl) (by decide) ?_
            refine g_lload_n hX (dc_X12_both 52 rfl) rfl 1 rfl ?_
            refine g_lload_n hX (dc_X12_both 53 rfl) rfl 2 rfl ?_
            refine g_lcmp hX (dc_X12_both 54 rfl) ?_
            refine g_if_ne (tgt := 152) hX (dc_X12_both 55 rfl) (by decide) (fun h50 => ?_) (fun h50 => ?_)
            · refine g_iconst (w := (1 : Int32)) hX (dc_X12_both 56 rfl) (by decide) ?_
              refine g_goto (tgt := 153) hX (dc_X12_both 57 rfl) (by decide) ?_
              exact g_sub [] rfl (c_X12_both_153 hX hO hΩ σ ((1 : Int32)))
            · refine g_iconst (w := (0 : Int32)) hX (dc_X12_both 58 rfl) (by decide) ?_
              exact g_sub [] rfl (c_X12_both_153 hX hO hΩ σ ((0 : Int32)))
          · refine g_ite (fun h39 => ?_) (fun h39 => ?_)
            · refine g_tsIn (off := 156) (tgt := 157) hX (dc_X12_both 1 rfl) (by rw [h39]; decide) (by rw [h39]; decide) (by rw [h39]; rfl) (by decide) ?_
              refine g_lload_n hX (dc_X12_both 61 rfl) rfl 1 rfl ?_
              refine g_lload_n hX (dc_X12_both 62 rfl) rfl 2 rfl ?_
              refine g_lcmp hX (dc_X12_both 63 rfl) ?_
              refine g_if_lt (tgt := 167) hX (dc_X12_both 64 rfl) (by decide) (fun h51 => ?_) (fun h51 => ?_)
              · refine g_iconst (w := (0 : Int32)) hX (dc_X12_both 67 rfl) (by decide) ?_
                exact g_sub [] rfl (c_X12_both_168 hX hO hΩ σ ((0 : Int32)))
              · refine g_iconst (w := (1 : Int32)) hX (dc_X12_both 65 rfl) (by decide) ?_
                refine g_goto (tgt := 168) hX (dc_X12_both 66 rfl) (by decide) ?_
                exact g_sub [] rfl (c_X12_both_168 hX hO hΩ σ ((1 : Int32)))
            · refine g_ite (fun h40 => ?_) (fun h40 => ?_)
              · refine g_tsIn (off := 171) (tgt := 172) hX (dc_X12_both 1 rfl) (by rw [h40]; decide) (by rw [h40]; decide) (by rw [h40]; rfl) (by decide) ?_
                refine g_lload_n hX (dc_X12_both 70 rfl) rfl 1 rfl ?_
                refine g_lload_n hX (dc_X12_both 71 rfl) rfl 2 rfl ?_
                refine g_lcmp hX (dc_X12_both 72 rfl) ?_
                refine g_if_le (tgt := 182) hX (dc_X12_both 73 rfl) (by decide) (fun h52 => ?_) (fun h52 => ?_)
                · refine g_iconst (w := (0 : Int32)) hX (dc_X12_both 76 rfl) (by decide) ?_
                  exact g_sub [] rfl (c_X12_both_183 hX hO hΩ σ ((0 : Int32)))
                · refine g_iconst (w := (1 : Int32)) hX (dc_X12_both 74 rfl) (by decide) ?_
                  refine g_goto (tgt := 183) hX (dc_X12_both 75 rfl) (by decide) ?_
                  exact g_sub [] rfl (c_X12_both_183 hX hO hΩ σ ((1 : Int32)))
              · refine g_ite (fun h41 => ?_) (fun h41 => ?_)
                · refine g_tsIn (off := 190) (tgt := 191) hX (dc_X12_both 1 rfl) (by rw [h41]; decide) (by rw [h41]; decide) (by rw [h41]; rfl) (by decide) ?_
                  refine g_lload_n hX (dc_X12_both 83 rfl) rfl 1 rfl ?_
                  refine g_lload_n hX (dc_X12_both 84 rfl) rfl 2 rfl ?_
                  refine g_lor hX (dc_X12_both 85 rfl) ?_
                  exact g_lret hX (dc_X12_both 86 rfl) rfl (Nat.le_refl _) (Nat.le_refl _)
                · refine g_ite (fun h42 => ?_) (fun h42 => ?_)
                  · refine g_tsIn (off := 186) (tgt := 187) hX (dc_X12_both 1 rfl) (by rw [h42]; decide) (by rw [h42]; decide) (by rw [h42]; rfl) (by decide) ?_
                    refine g_lload_n hX (dc_X12_both 79 rfl) rfl 1 rfl ?_
                    refine g_lload_n hX (dc_X12_both 80 rfl) rfl 2 rfl ?_
                    refine g_land hX (dc_X12_both 81 rfl) ?_
                    exact g_lret hX (dc_X12_both 82 rfl) rfl (Nat.le_refl _) (Nat.le_refl _)
                  · refine g_ite (fun h43 => ?_) (fun h43 => ?_)
                    · refine g_tsIn (off := 190) (tgt := 191) hX (dc_X12_both 1 rfl) (by rw [h43]; decide) (by rw [h43]; decide) (by rw [h43]; rfl) (by decide) ?_
                      refine g_lload_n hX (dc_X12_both 83 rfl) rfl 1 rfl ?_
                      refine g_lload_n hX (dc_X12_both 84 rfl) rfl 2 rfl ?_
                      refine g_lor hX (dc_X12_both 85 rfl) ?_
                      exact g_lret hX (dc_X12_both 86 rfl) rfl (Nat.le_refl _) (Nat.le_refl _)
                    · refine g_ite (fun h44 => ?_) (fun h44 => ?_)
                      · refine g_tsIn (off := 190) (tgt := 191) hX (dc_X12_both 1 rfl) (by rw [h44]; decide) (by rw [h44]; decide) (by rw [h44]; rfl) (by decide) ?_
                        refine g_lload_n hX (dc_X12_both 83 rfl) rfl 1 rfl ?_
                        refine g_lload_n hX (dc_X12_both 84 rfl) rfl 2 rfl ?_
                        refine g_lor hX (dc_X12_both 85 rfl) ?_
                        exact g_lret hX (dc_X12_both 86 rfl) rfl (Nat.le_refl _) (Nat.le_refl _)
                      · refine g_ite (fun h45 => ?_) (fun h45 => ?_)
                        · refine g_tsIn (off := 79) (tgt := 80) hX (dc_X12_both 1 rfl) (by rw [h45]; decide) (by rw [h45]; decide) (by rw [h45]; rfl) (by decide) ?_
                          refine g_lload_n hX (dc_X12_both 10 rfl) rfl 1 rfl ?_
                          refine g_lload_n hX (dc_X12_both 11 rfl) rfl 2 rfl ?_
                          refine g_lmul hX (dc_X12_both 12 rfl) ?_
                          exact g_lret hX (dc_X12_both 13 rfl) rfl (Nat.le_refl _) (Nat.le_refl _)
                        · refine g_ite (fun h46 => ?_) (fun h46 => ?_)
                          · refine g_tsIn (off := 83) (tgt := 84) hX (dc_X12_both 1 rfl) (by rw [h46]; decide) (by rw [h46]; decide) (by rw [h46]; rfl) (by decide) ?_
                            refine g_lload_n hX (dc_X12_both 14 rfl) rfl 2 rfl ?_
                            refine g_lconst (w := (0 : Int64)) hX (dc_X12_both 15 rfl) (by decide) ?_
                            refine g_lcmp hX (dc_X12_both 16 rfl) ?_
                            refine g_if_ne (tgt := 94) hX (dc_X12_both 17 rfl) (by decide) (fun h53 => ?_) (fun h53 => ?_)
                            · refine g_lconst (w := (0 : Int64)) hX (dc_X12_both 18 rfl) (by decide) ?_
                              refine g_goto (tgt := 97) hX (dc_X12_both 19 rfl) (by decide) ?_
                              exact g_sub [] rfl (c_X12_both_97 hX hO hΩ σ ((0 : Int64)))
                            · refine g_lload_n hX (dc_X12_both 20 rfl) rfl 1 rfl ?_
                              refine g_lload_n hX (dc_X12_both 21 rfl) rfl 2 rfl ?_
                              refine g_chk (fun hc54 => ?_)
                              refine g_ldiv hX (dc_X12_both 22 rfl) hc54 ?_
                              exact g_sub [] rfl (c_X12_both_97 hX hO hΩ σ ((x1 / x2)))
                          · refine g_ite (fun h47 => ?_) (fun h47 => ?_)
                            · refine g_tsIn (off := 97) (tgt := 98) hX (dc_X12_both 1 rfl) (by rw [h47]; decide) (by rw [h47]; decide) (by rw [h47]; rfl) (by decide) ?_
                              refine g_lload_n hX (dc_X12_both 24 rfl) rfl 2 rfl ?_
                              refine g_lconst (w := (0 : Int64)) hX (dc_X12_both 25 rfl) (by decide) ?_
                              refine g_lcmp hX (dc_X12_both 26 rfl) ?_
                              refine g_if_ne (tgt := 108) hX (dc_X12_both 27 rfl) (by decide) (fun h55 => ?_) (fun h55 => ?_)
                              · refine g_lconst (w := (0 : Int64)) hX (dc_X12_both 28 rfl) (by decide) ?_
                                refine g_goto (tgt := 111) hX (dc_X12_both 29 rfl) (by decide) ?_
                                exact g_sub [] rfl (c_X12_both_111 hX hO hΩ σ ((0 : Int64)))
                              · refine g_lload_n hX (dc_X12_both 30 rfl) rfl 1 rfl ?_
                                refine g_lload_n hX (dc_X12_both 31 rfl) rfl 2 rfl ?_
                                refine g_chk (fun hc56 => ?_)
                                refine g_lrem hX (dc_X12_both 32 rfl) hc56 ?_
                                exact g_sub [] rfl (c_X12_both_111 hX hO hΩ σ ((x1 - x1 / x2 * x2)))
                            · refine g_tsOut (tgt := 191) hX (dc_X12_both 1 rfl) (by have e0 := i32ne h34 (k := 2) (by decide); have e1 := i32ne h35 (k := 3) (by decide); have e2 := i32ne h36 (k := 4) (by decide); have e3 := i32ne h37 (k := 5) (by decide); have e4 := i32ne h38 (k := 6) (by decide); have e5 := i32ne h39 (k := 7) (by decide); have e6 := i32ne h40 (k := 8) (by decide); have e7 := i32ne h41 (k := 9) (by decide); have e8 := i32ne h42 (k := 10) (by decide); have e9 := i32ne h43 (k := 11) (by decide); have e10 := i32ne h44 (k := 12) (by decide); have e11 := i32ne h45 (k := 13) (by decide); have e12 := i32ne h46 (k := 14) (by decide); have e13 := i32ne h47 (k := 15) (by decide); omega) (by decide) ?_
                              refine g_lload_n hX (dc_X12_both 83 rfl) rfl 1 rfl ?_
                              refine g_lload_n hX (dc_X12_both 84 rfl) rfl 2 rfl ?_
                              refine g_lor hX (dc_X12_both 85 rfl) ?_
                              exact g_lret hX (dc_X12_both 86 rfl) rfl (Nat.le_refl _) (Nat.le_refl _)
def f_X12_both (x0 : Int32) (x1 : Int64) (x2 : Int64)  : Option (Int64) := b_X12_both_0  x0 x1 x2 
theorem con_X12_both {Ω : OM} (hO : OKO Ω) (hΩ : oSH Ω = SHM) (x0 : Int32) (x1 : Int64) (x2 : Int64) (σ : MS)  : Con Ω yX12_both cX12_both 5 (some .long) rm_X12_both (emPL σ) [.int x0, .long x1, .long x2] σ (f_X12_both x0 x1 x2 ) :=
  con_of hO (by decide +kernel) (Nat.le_of_ble_eq_true rfl) rfl (fun X hX _ => c_X12_both_0 hX hO hΩ   σ x0 x1 x2)
def it_X12_answer : List (Nat × Instr × Nat × Nat) := [(0, .iconst 0, 1, 1), (1, .istore 4, 2, 3), (3, .iload_n 2, 1, 4), (4, .istore 5, 2, 6), (6, .iload 5, 2, 8), (8, .iload_n 3, 1, 9), (9, .if_icmp .ge 144, 3, 12), (12, .aload_n 0, 1, 13), (13, .getfield 99, 3, 16), (16, .sipush 300, 3, 19), (19, .iload_n 1, 1, 20), (20, .imul, 1, 21), (21, .iload 5, 2, 23), (23, .iadd, 1, 24), (24, .iaload, 1, 25), (25, .istore 6, 2, 27), (27, .aload_n 0, 1, 28), (28, .getfield 102, 3, 31), (31, .sipush 300, 3, 34), (34, .iload_n 1, 1, 35), (35, .imul, 1, 36), (36, .iload 5, 2, 38), (38, .iadd, 1, 39), (39, .iaload, 1, 40), (40, .istore 7, 2, 42), (42, .iload 6, 2, 44), (44, .ifCond .eq 9, 3, 47), (47, .iload 6, 2, 49), (49, .iconst 1, 1, 50), (50, .if_icmp .ne 34, 3, 53), (53, .aload_n 0, 1, 54), (54, .getfield 124, 3, 57), (57, .iload 4, 2, 59), (59, .iload 6, 2, 61), (61, .ifCond .ne 9, 3, 64), (64, .iload 7, 2, 66), (66, .i2l, 1, 67), (67, .goto 10, 3, 70), (70, .aload_n 0, 1, 71), (71, .getfield 120, 3, 74), (74, .iload 7, 2, 76), (76, .laload, 1, 77), (77, .lastore, 1, 78), (78, .iinc 4 1, 3, 81), (81, .goto 66, 3, 84), (84, .iload 6, 2, 86), (86, .bipush 9, 2, 88), (88, .if_icmp .ne 26, 3, 91), (91, .aload_n 0, 1, 92), (92, .getfield 124, 3, 95), (95, .iload 4, 2, 97), (97, .iconst 1, 1, 98), (98, .isub, 1, 99), (99, .lconst 1, 1, 100), (100, .aload_n 0, 1, 101), (101, .getfield 124, 3, 104), (104, .iload 4, 2, 106), (106, .iconst 1, 1, 107), (107, .isub, 1, 108), (108, .laload, 1, 109), (109, .lsub, 1, 110), (110, .lastore, 1, 111), (111, .goto 36, 3, 114), (114, .iinc 4 (-1), 3, 117), (117, .aload_n 0, 1, 118), (118, .getfield 124, 3, 121), (121, .iload 4, 2, 123), (123, .iconst 1, 1, 124), (124, .isub, 1, 125), (125, .iload 6, 2, 127), (127, .aload_n 0, 1, 128), (128, .getfield 124, 3, 131), (131, .iload 4, 2, 133), (133, .iconst 1, 1, 134), (134, .isub, 1, 135), (135, .laload, 1, 136), (136, .aload_n 0, 1, 137), (137, .getfield 124, 3, 140), (140, .iload 4, 2, 142), (142, .laload, 1, 143), (143, .invokestatic 377, 3, 146), (146, .lastore, 1, 147), (147, .iinc 5 1, 3, 150), (150, .goto (-144), 3, 153), (153, .aload_n 0, 1, 154), (154, .getfield 124, 3, 157), (157, .iconst 0, 1, 158), (158, .laload, 1, 159), (159, .lreturn, 1, 160)]
theorem id_X12_answer : ∀ q ∈ it_X12_answer, decode cX12_answer q.1 = .ok (q.2.1, q.2.2.1) ∧ q.1 + q.2.2.1 = q.2.2.2 := by decide +kernel
theorem dc_X12_answer {pc : Nat} {i : Instr} {n pc' : Nat} (j : Nat) (h : it_X12_answer[j]? = some (pc, i, n, pc')) : Dc cX12_answer pc i n pc' := dc_of id_X12_answer j h
abbrev rm_X12_answer : Room := { frames := 2, cells := 0, slots := 0, locals := 44 }
def b_X12_answer_147  (k6 : Int32 → Int32 → Int32 → Int32 → MS → Option (Int64 × MS))  (y1 : Int32) (y3 : Int32) (y4 : Int32) (y5 : Int32) (σ : MS) : Option (Int64 × MS) := (k6 (y1) (y3) (y4) ((y5 + (1 : Int32))) σ)
set_option maxHeartbeats 4000000 in
set_option maxRecDepth 20000 in
theorem c_X12_answer_147 {X : CX} {Ω : OM} (hX : CF X Ω RX12 cX12_answer 8 (some .long) rm_X12_answer) (hO : OKO Ω) (hΩ : oSH Ω = SHM)   (k6 : Int32 → Int32 → Int32 → Int32 → MS → Option (Int64 × MS)) (hk6 : ∀ (y1 : Int32) (y3 : Int32) (y4 : Int32) (y5 : Int32) (σ : MS) , GE X Ω 8 0 0 (emWL) 0 0 6 [(0, .ref 0), (1, .int y1), (3, .int y3), (4, .int y4), (5, .int y5)] [] σ (k6 y1 y3 y4 y5 σ))  (y1 : Int32) (y3 : Int32) (y4 : Int32) (y5 : Int32) (σ : MS)  : GE X Ω 8 0 0 (emWL) 0 0 147 [(0, .ref 0), (1, .int y1), (3, .int y3), (4, .int y4), (5, .int y5)] [] σ (b_X12_answer_147  k6 y1 y3 y4 y5 σ) := by
  unfold b_X12_answer_147
  refine g_iinc (w := (y5 + (1 : Int32))) (L' := [(5, .int (y5 + (1 : Int32))), (0, .ref 0), (1, .int y1), (3, .int y3), (4, .int y4)]) hX (dc_X12_answer 82 rfl) 4 rfl rfl (by decide) rfl ?_
  refine g_goto (tgt := 6) hX (dc_X12_answer 83 rfl) (by decide) ?_
  exact g_sub [1, 2, 3, 4, 0] rfl (hk6 (y1) (y3) (y4) ((y5 + (1 : Int32))) σ )
def b_X12_answer_77  (k6 : Int32 → Int32 → Int32 → Int32 → MS → Option (Int64 × MS))  (y1 : Int32) (y3 : Int32) (y4 : Int32) (y5 : Int32) (s0 : Int64) (s1 : Int32) (σ : MS) : Option (Int64 × MS) := chk (inb s1 300) ((b_X12_answer_147 k6 (y1) (y3) ((y4 + (1 : Int32))) (y5) (wJ σ 37 (ix s1) s0)))
set_option maxHeartbeats 4000000 in
set_option maxRecDepth 20000 in
theorem c_X12_answer_77 {X : CX} {Ω : OM} (hX : CF X Ω RX12 cX12_answer 8 (some .long) rm_X12_answer) (hO : OKO Ω) (hΩ : oSH Ω = SHM)   (k6 : Int32 → Int32 → Int32 → Int32 → MS → Option (Int64 × MS)) (hk6 : ∀ (y1 : Int32) (y3 : Int32) (y4 : Int32) (y5 : Int32) (σ : MS) , GE X Ω 8 0 0 (emWL) 0 0 6 [(0, .ref 0), (1, .int y1), (3, .int y3), (4, .int y4), (5, .int y5)] [] σ (k6 y1 y3 y4 y5 σ))  (y1 : Int32) (y3 : Int32) (y4 : Int32) (y5 : Int32) (s0 : Int64) (s1 : Int32) (σ : MS)  : GE X Ω 8 0 0 (emWL) 0 0 77 [(0, .ref 0), (1, .int y1), (3, .int y3), (4, .int y4), (5, .int y5)] [.long s0, .int s1, .ref 37] σ (b_X12_answer_77  k6 y1 y3 y4 y5 s0 s1 σ) := by
  unfold b_X12_answer_77
  refine g_chk (fun hc16 => ?_)
  refine g_last hX (dc_X12_answer 42 rfl) (stS hΩ 37 rfl) hc16 rfl ?_
  refine g_iinc (w := (y4 + (1 : Int32))) (L' := [(4, .int (y4 + (1 : Int32))), (0, .ref 0), (1, .int y1), (3, .int y3), (5, .int y5)]) hX (dc_X12_answer 43 rfl) 3 rfl rfl (by decide) rfl ?_
  refine g_goto (tgt := 147) hX (dc_X12_answer 44 rfl) (by decide) ?_
  exact g_sub [1, 2, 3, 0, 4] rfl (c_X12_answer_147 hX hO hΩ _ hk6 (y1) (y3) ((y4 + (1 : Int32))) (y5) (wJ σ 37 (ix s1) s0))
def b_X12_answer_53  (k6 : Int32 → Int32 → Int32 → Int32 → MS → Option (Int64 × MS))  (y1 : Int32) (y3 : Int32) (y4 : Int32) (y5 : Int32) (y6 : Int32) (y7 : Int32) (σ : MS) : Option (Int64 × MS) := (if y6 = 0 then (b_X12_answer_77 k6 (y1) (y3) (y4) (y5) ((y7).toInt64) (y4) σ) else chk (inb y7 12) ((b_X12_answer_77 k6 (y1) (y3) (y4) (y5) ((sJ σ 36 (ix y7))) (y4) σ)))
set_option maxHeartbeats 4000000 in
set_option maxRecDepth 20000 in
theorem c_X12_answer_53 {X : CX} {Ω : OM} (hX : CF X Ω RX12 cX12_answer 8 (some .long) rm_X12_answer) (hO : OKO Ω) (hΩ : oSH Ω = SHM)   (k6 : Int32 → Int32 → Int32 → Int32 → MS → Option (Int64 × MS)) (hk6 : ∀ (y1 : Int32) (y3 : Int32) (y4 : Int32) (y5 : Int32) (σ : MS) , GE X Ω 8 0 0 (emWL) 0 0 6 [(0, .ref 0), (1, .int y1), (3, .int y3), (4, .int y4), (5, .int y5)] [] σ (k6 y1 y3 y4 y5 σ))  (y1 : Int32) (y3 : Int32) (y4 : Int32) (y5 : Int32) (y6 : Int32) (y7 : Int32) (σ : MS)  : GE X Ω 8 0 0 (emWL) 0 0 53 [(0, .ref 0), (1, .int y1), (3, .int y3), (4, .int y4), (5, .int y5), (6, .int y6), (7, .int y7)] [] σ (b_X12_answer_53  k6 y1 y3 y4 y5 y6 y7 σ) := by
  unfold b_X12_answer_53
  refine g_aload_n hX (dc_X12_answer 30 rfl) rfl 0 rfl ?_
  refine g_getF (q := 37) hX (dc_X12_answer 31 rfl) fl_X12_124 (by decide) rfl (stS hΩ 0 rfl) rfl ?_
  refine g_iload hX (dc_X12_answer 32 rfl) 3 rfl ?_
  refine g_iload hX (dc_X12_answer 33 rfl) 5 rfl ?_
  refine g_if_ne (tgt := 70) hX (dc_X12_answer 34 rfl) (by decide) (fun h17 => ?_) (fun h17 => ?_)
  · refine g_iload hX (dc_X12_answer 35 rfl) 6 rfl ?_
    refine g_i2l hX (dc_X12_answer 36 rfl) ?_
    refine g_goto (tgt := 77) hX (dc_X12_answer 37 rfl) (by decide) ?_
    exact g_sub [0, 1, 2, 3, 4] rfl (c_X12_answer_77 hX hO hΩ _ hk6 (y1) (y3) (y4) (y5) ((y7).toInt64) (y4) σ)
  · refine g_aload_n hX (dc_X12_answer 38 rfl) rfl 0 rfl ?_
    refine g_getF (q := 36) hX (dc_X12_answer 39 rfl) fl_X12_120 (by decide) rfl (stS hΩ 0 rfl) rfl ?_
    refine g_iload hX (dc_X12_answer 40 rfl) 6 rfl ?_
    refine g_chk (fun hc18 => ?_)
    refine g_lald hX (dc_X12_answer 41 rfl) (stS hΩ 36 rfl) hc18 rfl ?_
    exact g_sub [0, 1, 2, 3, 4] rfl (c_X12_answer_77 hX hO hΩ _ hk6 (y1) (y3) (y4) (y5) ((sJ σ 36 (ix y7))) (y4) σ)
def b_X12_answer_6   : Nat → Int32 → Int32 → Int32 → Int32 → MS → Option (Int64 × MS)
  | 0, _, _, _, _, _ => none
  | n + 1, y1, y3, y4, y5, σ => (if y3 ≤ y5 then some ((sJ σ 37 0), σ) else chk (inb (((300 : Int32) * y1) + y5) 1800) (chk (inb (((300 : Int32) * y1) + y5) 1800) ((if (sI σ 29 (ix (((300 : Int32) * y1) + y5))) = 0 then (b_X12_answer_53 (b_X12_answer_6  n) (y1) (y3) (y4) (y5) ((sI σ 29 (ix (((300 : Int32) * y1) + y5)))) ((sI σ 30 (ix (((300 : Int32) * y1) + y5)))) σ) else (if (sI σ 29 (ix (((300 : Int32) * y1) + y5))) = (1 : Int32) then (b_X12_answer_53 (b_X12_answer_6  n) (y1) (y3) (y4) (y5) ((sI σ 29 (ix (((300 : Int32) * y1) + y5)))) ((sI σ 30 (ix (((300 : Int32) * y1) + y5)))) σ) else (if (sI σ 29 (ix (((300 : Int32) * y1) + y5))) = (9 : Int32) then chk (inb (y4 - (1 : Int32)) 300) (chk (inb (y4 - (1 : Int32)) 300) ((b_X12_answer_147 (b_X12_answer_6  n) (y1) (y3) (y4) (y5) (wJ σ 37 (ix (y4 - (1 : Int32))) ((1 : Int64) - (sJ σ 37 (ix (y4 - (1 : Int32))))))))) else chk (inb ((y4 + (-1 : Int32)) - (1 : Int32)) 300) (chk (inb (y4 + (-1 : Int32)) 300) ((f_X12_both (sI σ 29 (ix (((300 : Int32) * y1) + y5))) (sJ σ 37 (ix ((y4 + (-1 : Int32)) - (1 : Int32)))) (sJ σ 37 (ix (y4 + (-1 : Int32))))).bind (fun r29 => chk (inb ((y4 + (-1 : Int32)) - (1 : Int32)) 300) ((b_X12_answer_147 (b_X12_answer_6  n) (y1) (y3) ((y4 + (-1 : Int32))) (y5) (wJ σ 37 (ix ((y4 + (-1 : Int32)) - (1 : Int32))) r29))))))))))))
set_option maxHeartbeats 4000000 in
set_option maxRecDepth 20000 in
theorem c_X12_answer_6 {X : CX} {Ω : OM} (hX : CF X Ω RX12 cX12_answer 8 (some .long) rm_X12_answer) (hO : OKO Ω) (hΩ : oSH Ω = SHM)    : ∀ (n : Nat) (y1 : Int32) (y3 : Int32) (y4 : Int32) (y5 : Int32) (σ : MS) , GE X Ω 8 0 0 (emWL) 0 0 6 [(0, .ref 0), (1, .int y1), (3, .int y3), (4, .int y4), (5, .int y5)] [] σ (b_X12_answer_6  n y1 y3 y4 y5 σ)
  | 0, _, _, _, _, _ => g_none
  | n + 1, y1, y3, y4, y5, σ => by
    have hk6 := c_X12_answer_6 hX hO hΩ  n
    unfold b_X12_answer_6
    refine g_iload hX (dc_X12_answer 4 rfl) 4 rfl ?_
    refine g_iload_n hX (dc_X12_answer 5 rfl) rfl 2 rfl ?_
    refine g_icmp_ge (tgt := 153) hX (dc_X12_answer 6 rfl) (by decide) (fun h19 => ?_) (fun h19 => ?_)
    · refine g_aload_n hX (dc_X12_answer 84 rfl) rfl 0 rfl ?_
      refine g_getF (q := 37) hX (dc_X12_answer 85 rfl) fl_X12_124 (by decide) rfl (stS hΩ 0 rfl) rfl ?_
      refine g_iconst (w := (0 : Int32)) hX (dc_X12_answer 86 rfl) (by decide) ?_
      refine g_lald (j := 0) hX (dc_X12_answer 87 rfl) (stS hΩ 37 rfl) (by decide) (by decide) ?_
      exact g_lret hX (dc_X12_answer 88 rfl) rfl (Nat.le_refl _) (Nat.le_refl _)
    · refine g_aload_n hX (dc_X12_answer 7 rfl) rfl 0 rfl ?_
      refine g_getF (q := 29) hX (dc_X12_answer 8 rfl) fl_X12_99 (by decide) rfl (stS hΩ 0 rfl) rfl ?_
      refine g_sipush (w := (300 : Int32)) hX (dc_X12_answer 9 rfl) (by decide) ?_
      refine g_iload_n hX (dc_X12_answer 10 rfl) rfl 1 rfl ?_
      refine g_imul hX (dc_X12_answer 11 rfl) ?_
      refine g_iload hX (dc_X12_answer 12 rfl) 4 rfl ?_
      refine g_iadd hX (dc_X12_answer 13 rfl) ?_
      refine g_chk (fun hc20 => ?_)
      refine g_iald hX (dc_X12_answer 14 rfl) (stS hΩ 29 rfl) hc20 rfl ?_
      refine g_istore (L' := [(6, .int (sI σ 29 (ix (((300 : Int32) * y1) + y5)))), (0, .ref 0), (1, .int y1), (3, .int y3), (4, .int y4), (5, .int y5)]) hX (dc_X12_answer 15 rfl) (by decide) rfl ?_
      refine g_aload_n hX (dc_X12_answer 16 rfl) rfl 1 rfl ?_
      refine g_getF (q := 30) hX (dc_X12_answer 17 rfl) fl_X12_102 (by decide) rfl (stS hΩ 0 rfl) rfl ?_
      refine g_sipush (w := (300 : Int32)) hX (dc_X12_answer 18 rfl) (by decide) ?_
      refine g_iload_n hX (dc_X12_answer 19 rfl) rfl 2 rfl ?_
      refine g_imul hX (dc_X12_answer 20 rfl) ?_
      refine g_iload hX (dc_X12_answer 21 rfl) 5 rfl ?_
      refine g_iadd hX (dc_X12_answer 22 rfl) ?_
      refine g_chk (fun hc21 => ?_)
      refine g_iald hX (dc_X12_answer 23 rfl) (stS hΩ 30 rfl) hc21 rfl ?_
      refine g_istore (L' := [(7, .int (sI σ 30 (ix (((300 : Int32) * y1) + y5)))), (6, .int (sI σ 29 (ix (((300 : Int32) * y1) + y5)))), (0, .ref 0), (1, .int y1), (3, .int y3), (4, .int y4), (5, .int y5)]) hX (dc_X12_answer 24 rfl) (by decide) rfl ?_
      refine g_iload hX (dc_X12_answer 25 rfl) 1 rfl ?_
      refine g_if_eq (tgt := 53) hX (dc_X12_answer 26 rfl) (by decide) (fun h22 => ?_) (fun h22 => ?_)
      · exact g_sub [2, 3, 4, 5, 6, 1, 0] rfl (c_X12_answer_53 hX hO hΩ _ hk6 (y1) (y3) (y4) (y5) ((sI σ 29 (ix (((300 : Int32) * y1) + y5)))) ((sI σ 30 (ix (((300 : Int32) * y1) + y5)))) σ)
      · refine g_iload hX (dc_X12_answer 27 rfl) 1 rfl ?_
        refine g_iconst (w := (1 : Int32)) hX (dc_X12_answer 28 rfl) (by decide) ?_
        refine g_icmp_ne (tgt := 84) hX (dc_X12_answer 29 rfl) (by decide) (fun h23 => ?_) (fun h23 => ?_)
        · exact g_sub [2, 3, 4, 5, 6, 1, 0] rfl (c_X12_answer_53 hX hO hΩ _ hk6 (y1) (y3) (y4) (y5) ((sI σ 29 (ix (((300 : Int32) * y1) + y5)))) ((sI σ 30 (ix (((300 : Int32) * y1) + y5)))) σ)
        · refine g_iload hX (dc_X12_answer 45 rfl) 1 rfl ?_
          refine g_bipush (w := (9 : Int32)) hX (dc_X12_answer 46 rfl) (by decide) ?_
          refine g_icmp_ne (tgt := 114) hX (dc_X12_answer 47 rfl) (by decide) (fun h24 => ?_) (fun h24 => ?_)
          · refine g_aload_n hX (dc_X12_answer 48 rfl) rfl 2 rfl ?_
            refine g_getF (q := 37) hX (dc_X12_answer 49 rfl) fl_X12_124 (by decide) rfl (stS hΩ 0 rfl) rfl ?_
            refine g_iload hX (dc_X12_answer 50 rfl) 5 rfl ?_
            refine g_iconst (w := (1 : Int32)) hX (dc_X12_answer 51 rfl) (by decide) ?_
            refine g_isub hX (dc_X12_answer 52 rfl) ?_
            refine g_lconst (w := (1 : Int64)) hX (dc_X12_answer 53 rfl) (by decide) ?_
            refine g_aload_n hX (dc_X12_answer 54 rfl) rfl 2 rfl ?_
            refine g_getF (q := 37) hX (dc_X12_answer 55 rfl) fl_X12_124 (by decide) rfl (stS hΩ 0 rfl) rfl ?_
            refine g_iload hX (dc_X12_answer 56 rfl) 5 rfl ?_
            refine g_iconst (w := (1 : Int32)) hX (dc_X12_answer 57 rfl) (by decide) ?_
            refine g_isub hX (dc_X12_answer 58 rfl) ?_
            refine g_chk (fun hc25 => ?_)
            refine g_lald hX (dc_X12_answer 59 rfl) (stS hΩ 37 rfl) hc25 rfl ?_
            refine g_lsub hX (dc_X12_answer 60 rfl) ?_
            refine g_chk (fun hc26 => ?_)
            refine g_last hX (dc_X12_answer 61 rfl) (stS hΩ 37 rfl) hc26 rfl ?_
            refine g_goto (tgt := 147) hX (dc_X12_answer 62 rfl) (by decide) ?_
            exact g_sub [2, 3, 4, 5, 6] rfl (c_X12_answer_147 hX hO hΩ _ hk6 (y1) (y3) (y4) (y5) (wJ σ 37 (ix (y4 - (1 : Int32))) ((1 : Int64) - (sJ σ 37 (ix (y4 - (1 : Int32)))))))
          · refine g_iinc (w := (y4 + (-1 : Int32))) (L' := [(4, .int (y4 + (-1 : Int32))), (7, .int (sI σ 30 (ix (((300 : Int32) * y1) + y5)))), (6, .int (sI σ 29 (ix (((300 : Int32) * y1) + y5)))), (0, .ref 0), (1, .int y1), (3, .int y3), (5, .int y5)]) hX (dc_X12_answer 63 rfl) 5 rfl rfl (by decide) rfl ?_
            refine g_aload_n hX (dc_X12_answer 64 rfl) rfl 3 rfl ?_
            refine g_getF (q := 37) hX (dc_X12_answer 65 rfl) fl_X12_124 (by decide) rfl (stS hΩ 0 rfl) rfl ?_
            refine g_iload hX (dc_X12_answer 66 rfl) 0 rfl ?_
            refine g_iconst (w := (1 : Int32)) hX (dc_X12_answer 67 rfl) (by decide) ?_
            refine g_isub hX (dc_X12_answer 68 rfl) ?_
            refine g_iload hX (dc_X12_answer 69 rfl) 2 rfl ?_
            refine g_aload_n hX (dc_X12_answer 70 rfl) rfl 3 rfl ?_
            refine g_getF (q := 37) hX (dc_X12_answer 71 rfl) fl_X12_124 (by decide) rfl (stS hΩ 0 rfl) rfl ?_
            refine g_iload hX (dc_X12_answer 72 rfl) 0 rfl ?_
            refine g_iconst (w := (1 : Int32)) hX (dc_X12_answer 73 rfl) (by decide) ?_
            refine g_isub hX (dc_X12_answer 74 rfl) ?_
            refine g_chk (fun hc27 => ?_)
            refine g_lald hX (dc_X12_answer 75 rfl) (stS hΩ 37 rfl) hc27 rfl ?_
            refine g_aload_n hX (dc_X12_answer 76 rfl) rfl 3 rfl ?_
            refine g_getF (q := 37) hX (dc_X12_answer 77 rfl) fl_X12_124 (by decide) rfl (stS hΩ 0 rfl) rfl ?_
            refine g_iload hX (dc_X12_answer 78 rfl) 0 rfl ?_
            refine g_chk (fun hc28 => ?_)
            refine g_lald hX (dc_X12_answer 79 rfl) (stS hΩ 37 rfl) hc28 rfl ?_
            refine gS_PL (As := [.int (sI σ 29 (ix (((300 : Int32) * y1) + y5))), .long (sJ σ 37 (ix ((y4 + (-1 : Int32)) - (1 : Int32)))), .long (sJ σ 37 (ix (y4 + (-1 : Int32))))]) (st := [.int ((y4 + (-1 : Int32)) - (1 : Int32)), .ref 37]) hX (dc_X12_answer 80 rfl) ml_X12_377 (con_X12_both hO hΩ (sI σ 29 (ix (((300 : Int32) * y1) + y5))) (sJ σ 37 (ix ((y4 + (-1 : Int32)) - (1 : Int32)))) (sJ σ 37 (ix (y4 + (-1 : Int32)))) σ) rfl rfl ⟨by decide, by decide⟩ ⟨rfl, rfl⟩ ⟨Nat.zero_le _, Nat.zero_le _⟩ (Nat.le_of_ble_eq_true rfl) (fun r29 _ => ?_)
            refine g_chk (fun hc30 => ?_)
            refine g_last hX (dc_X12_answer 81 rfl) (stS hΩ 37 rfl) hc30 rfl ?_
            exact g_sub [3, 4, 5, 0, 6] rfl (c_X12_answer_147 hX hO hΩ _ hk6 (y1) (y3) ((y4 + (-1 : Int32))) (y5) (wJ σ 37 (ix ((y4 + (-1 : Int32)) - (1 : Int32))) r29))
def b_X12_answer_0   (x1 : Int32) (x2 : Int32) (x3 : Int32)  (σ : MS) : Option (Int64 × MS) := (b_X12_answer_6 FU (x1) (x3) ((0 : Int32)) (x2) σ)
set_option maxHeartbeats 4000000 in
set_option maxRecDepth 20000 in
theorem c_X12_answer_0 {X : CX} {Ω : OM} (hX : CF X Ω RX12 cX12_answer 8 (some .long) rm_X12_answer) (hO : OKO Ω) (hΩ : oSH Ω = SHM)    (x1 : Int32) (x2 : Int32) (x3 : Int32)  (σ : MS)  : GE X Ω 8 0 0 (emWL) 0 0 0 [(0, .ref 0), (1, .int x1), (2, .int x2), (3, .int x3)] [] σ (b_X12_answer_0  x1 x2 x3 σ) := by
  unfold b_X12_answer_0
  refine g_iconst (w := (0 : Int32)) hX (dc_X12_answer 0 rfl) (by decide) ?_
  refine g_istore (L' := [(4, .int (0 : Int32)), (0, .ref 0), (1, .int x1), (2, .int x2), (3, .int x3)]) hX (dc_X12_answer 1 rfl) (by decide) rfl ?_
  refine g_iload_n hX (dc_X12_answer 2 rfl) rfl 3 rfl ?_
  refine g_istore (L' := [(5, .int x2), (4, .int (0 : Int32)), (0, .ref 0), (1, .int x1), (2, .int x2), (3, .int x3)]) hX (dc_X12_answer 3 rfl) (by decide) rfl ?_
  exact g_sub [2, 3, 5, 1, 0] rfl (c_X12_answer_6 hX hO hΩ FU (x1) (x3) ((0 : Int32)) (x2) σ)
def f_X12_answer (x1 : Int32) (x2 : Int32) (x3 : Int32) (σ : MS) : Option (Int64 × MS) := b_X12_answer_0  x1 x2 x3 σ
theorem con_X12_answer {Ω : OM} (hO : OKO Ω) (hΩ : oSH Ω = SHM) (x1 : Int32) (x2 : Int32) (x3 : Int32) (σ : MS)  : Con Ω yX12_answer cX12_answer 8 (some .long) rm_X12_answer (emWL) [.ref 0, .int x1, .int x2, .int x3] σ (f_X12_answer x1 x2 x3 σ) :=
  con_of hO (by decide +kernel) (Nat.le_of_ble_eq_true rfl) rfl (fun X hX _ => c_X12_answer_0 hX hO hΩ   x1 x2 x3 σ )
def it_X12_wanted : List (Nat × Instr × Nat × Nat) := [(0, .aload_n 0, 1, 1), (1, .getfield 9, 3, 4), (4, .bipush 9, 2, 6), (6, .iaload, 1, 7), (7, .istore_n 1, 1, 8), (8, .bipush 12, 2, 10), (10, .iload_n 1, 1, 11), (11, .imul, 1, 12), (12, .istore_n 2, 1, 13), (13, .iload_n 2, 1, 14), (14, .bipush 12, 2, 16), (16, .iload_n 1, 1, 17), (17, .imul, 1, 18), (18, .aload_n 0, 1, 19), (19, .getfield 105, 3, 22), (22, .iload_n 1, 1, 23), (23, .iaload, 1, 24), (24, .iadd, 1, 25), (25, .if_icmp .ge 64, 3, 28), (28, .aload_n 0, 1, 29), (29, .getfield 111, 3, 32), (32, .iload_n 2, 1, 33), (33, .iaload, 1, 34), (34, .aload_n 0, 1, 35), (35, .getfield 114, 3, 38), (38, .iload_n 2, 1, 39), (39, .iaload, 1, 40), (40, .if_icmp .eq 25, 3, 43), (43, .aload_n 0, 1, 44), (44, .iload_n 1, 1, 45), (45, .aload_n 0, 1, 46), (46, .getfield 111, 3, 49), (49, .iload_n 2, 1, 50), (50, .iaload, 1, 51), (51, .aload_n 0, 1, 52), (52, .getfield 114, 3, 55), (55, .iload_n 2, 1, 56), (56, .iaload, 1, 57), (57, .invokevirtual 369, 3, 60), (60, .lconst 1, 1, 61), (61, .lcmp, 1, 62), (62, .ifCond .ne 21, 3, 65), (65, .aload_n 0, 1, 66), (66, .iload_n 1, 1, 67), (67, .aload_n 0, 1, 68), (68, .getfield 108, 3, 71), (71, .iload_n 2, 1, 72), (72, .iaload, 1, 73), (73, .aload_n 0, 1, 74), (74, .getfield 111, 3, 77), (77, .iload_n 2, 1, 78), (78, .iaload, 1, 79), (79, .invokevirtual 369, 3, 82), (82, .lreturn, 1, 83), (83, .iinc 2 1, 3, 86), (86, .goto (-73), 3, 89), (89, .lconst 0, 1, 90), (90, .lreturn, 1, 91)]
theorem id_X12_wanted : ∀ q ∈ it_X12_wanted, decode cX12_wanted q.1 = .ok (q.2.1, q.2.2.1) ∧ q.1 + q.2.2.1 = q.2.2.2 := by decide +kernel
theorem dc_X12_wanted {pc : Nat} {i : Instr} {n pc' : Nat} (j : Nat) (h : it_X12_wanted[j]? = some (pc, i, n, pc')) : Dc cX12_wanted pc i n pc' := dc_of id_X12_wanted j h
abbrev rm_X12_wanted : Room := { frames := 3, cells := 0, slots := 0, locals := 71 }
def b_X12_wanted_65    (y1 : Int32) (y2 : Int32) (σ : MS) : Option (Int64 × MS) := chk (inb y2 72) (chk (inb y2 72) ((f_X12_answer y1 (sI σ 32 (ix y2)) (sI σ 33 (ix y2)) σ).bind (fun r15 => some (r15.1, r15.2))))
set_option maxHeartbeats 4000000 in
set_option maxRecDepth 20000 in
theorem c_X12_wanted_65 {X : CX} {Ω : OM} (hX : CF X Ω RX12 cX12_wanted 3 (some .long) rm_X12_wanted) (hO : OKO Ω) (hΩ : oSH Ω = SHM)     (y1 : Int32) (y2 : Int32) (σ : MS)  : GE X Ω 3 0 0 (emWL) 0 0 65 [(0, .ref 0), (1, .int y1), (2, .int y2)] [] σ (b_X12_wanted_65  y1 y2 σ) := by
  unfold b_X12_wanted_65
  refine g_aload_n hX (dc_X12_wanted 42 rfl) rfl 0 rfl ?_
  refine g_iload_n hX (dc_X12_wanted 43 rfl) rfl 1 rfl ?_
  refine g_aload_n hX (dc_X12_wanted 44 rfl) rfl 0 rfl ?_
  refine g_getF (q := 32) hX (dc_X12_wanted 45 rfl) fl_X12_108 (by decide) rfl (stS hΩ 0 rfl) rfl ?_
  refine g_iload_n hX (dc_X12_wanted 46 rfl) rfl 2 rfl ?_
  refine g_chk (fun hc13 => ?_)
  refine g_iald hX (dc_X12_wanted 47 rfl) (stS hΩ 32 rfl) hc13 rfl ?_
  refine g_aload_n hX (dc_X12_wanted 48 rfl) rfl 0 rfl ?_
  refine g_getF (q := 33) hX (dc_X12_wanted 49 rfl) fl_X12_111 (by decide) rfl (stS hΩ 0 rfl) rfl ?_
  refine g_iload_n hX (dc_X12_wanted 50 rfl) rfl 2 rfl ?_
  refine g_chk (fun hc14 => ?_)
  refine g_iald hX (dc_X12_wanted 51 rfl) (stS hΩ 33 rfl) hc14 rfl ?_
  refine gV_WL (As := [.int y1, .int (sI σ 32 (ix y2)), .int (sI σ 33 (ix y2))]) (st := []) hX (dc_X12_wanted 52 rfl) ml_X12_369 (con_X12_answer hO hΩ y1 (sI σ 32 (ix y2)) (sI σ 33 (ix y2)) σ) (stS hΩ 0 rfl) rfl rfl ⟨by decide, by decide⟩ ⟨rfl, rfl⟩ ⟨Nat.zero_le _, Nat.zero_le _⟩ (Nat.le_of_ble_eq_true rfl) (fun r15 _ => ?_)
  exact g_lret hX (dc_X12_wanted 53 rfl) rfl (Nat.le_refl _) (Nat.le_refl _)
def b_X12_wanted_13   : Nat → Int32 → Int32 → MS → Option (Int64 × MS)
  | 0, _, _, _ => none
  | n + 1, y1, y2, σ => chk (inb y1 6) ((if (((12 : Int32) * y1) + (sI σ 31 (ix y1))) ≤ y2 then some ((0 : Int64), σ) else chk (inb y2 72) (chk (inb y2 72) ((if (sI σ 33 (ix y2)) = (sI σ 34 (ix y2)) then (b_X12_wanted_65 (y1) (y2) σ) else chk (inb y2 72) (chk (inb y2 72) ((f_X12_answer y1 (sI σ 33 (ix y2)) (sI σ 34 (ix y2)) σ).bind (fun r23 => (if (lg_cmp r23.1 (1 : Int64)) = 0 then (b_X12_wanted_65 (y1) (y2) r23.2) else ((b_X12_wanted_13  n) (y1) ((y2 + (1 : Int32))) r23.2))))))))))
set_option maxHeartbeats 4000000 in
set_option maxRecDepth 20000 in
theorem c_X12_wanted_13 {X : CX} {Ω : OM} (hX : CF X Ω RX12 cX12_wanted 3 (some .long) rm_X12_wanted) (hO : OKO Ω) (hΩ : oSH Ω = SHM)    : ∀ (n : Nat) (y1 : Int32) (y2 : Int32) (σ : MS) , GE X Ω 3 0 0 (emWL) 0 0 13 [(0, .ref 0), (1, .int y1), (2, .int y2)] [] σ (b_X12_wanted_13  n y1 y2 σ)
  | 0, _, _, _ => g_none
  | n + 1, y1, y2, σ => by
    have hk13 := c_X12_wanted_13 hX hO hΩ  n
    unfold b_X12_wanted_13
    refine g_iload_n hX (dc_X12_wanted 9 rfl) rfl 2 rfl ?_
    refine g_bipush (w := (12 : Int32)) hX (dc_X12_wanted 10 rfl) (by decide) ?_
    refine g_iload_n hX (dc_X12_wanted 11 rfl) rfl 1 rfl ?_
    refine g_imul hX (dc_X12_wanted 12 rfl) ?_
    refine g_aload_n hX (dc_X12_wanted 13 rfl) rfl 0 rfl ?_
    refine g_getF (q := 31) hX (dc_X12_wanted 14 rfl) fl_X12_105 (by decide) rfl (stS hΩ 0 rfl) rfl ?_
    refine g_iload_n hX (dc_X12_wanted 15 rfl) rfl 1 rfl ?_
    refine g_chk (fun hc16 => ?_)
    refine g_iald hX (dc_X12_wanted 16 rfl) (stS hΩ 31 rfl) hc16 rfl ?_
    refine g_iadd hX (dc_X12_wanted 17 rfl) ?_
    refine g_icmp_ge (tgt := 89) hX (dc_X12_wanted 18 rfl) (by decide) (fun h17 => ?_) (fun h17 => ?_)
    · refine g_lconst (w := (0 : Int64)) hX (dc_X12_wanted 56 rfl) (by decide) ?_
      exact g_lret hX (dc_X12_wanted 57 rfl) rfl (Nat.le_refl _) (Nat.le_refl _)
    · refine g_aload_n hX (dc_X12_wanted 19 rfl) rfl 0 rfl ?_
      refine g_getF (q := 33) hX (dc_X12_wanted 20 rfl) fl_X12_111 (by decide) rfl (stS hΩ 0 rfl) rfl ?_
      refine g_iload_n hX (dc_X12_wanted 21 rfl) rfl 2 rfl ?_
      refine g_chk (fun hc18 => ?_)
      refine g_iald hX (dc_X12_wanted 22 rfl) (stS hΩ 33 rfl) hc18 rfl ?_
      refine g_aload_n hX (dc_X12_wanted 23 rfl) rfl 0 rfl ?_
      refine g_getF (q := 34) hX (dc_X12_wanted 24 rfl) fl_X12_114 (by decide) rfl (stS hΩ 0 rfl) rfl ?_
      refine g_iload_n hX (dc_X12_wanted 25 rfl) rfl 2 rfl ?_
      refine g_chk (fun hc19 => ?_)
      refine g_iald hX (dc_X12_wanted 26 rfl) (stS hΩ 34 rfl) hc19 rfl ?_
      refine g_icmp_eq (tgt := 65) hX (dc_X12_wanted 27 rfl) (by decide) (fun h20 => ?_) (fun h20 => ?_)
      · exact g_sub [0, 1, 2] rfl (c_X12_wanted_65 hX hO hΩ (y1) (y2) σ)
      · refine g_aload_n hX (dc_X12_wanted 28 rfl) rfl 0 rfl ?_
        refine g_iload_n hX (dc_X12_wanted 29 rfl) rfl 1 rfl ?_
        refine g_aload_n hX (dc_X12_wanted 30 rfl) rfl 0 rfl ?_
        refine g_getF (q := 33) hX (dc_X12_wanted 31 rfl) fl_X12_111 (by decide) rfl (stS hΩ 0 rfl) rfl ?_
        refine g_iload_n hX (dc_X12_wanted 32 rfl) rfl 2 rfl ?_
        refine g_chk (fun hc21 => ?_)
        refine g_iald hX (dc_X12_wanted 33 rfl) (stS hΩ 33 rfl) hc21 rfl ?_
        refine g_aload_n hX (dc_X12_wanted 34 rfl) rfl 0 rfl ?_
        refine g_getF (q := 34) hX (dc_X12_wanted 35 rfl) fl_X12_114 (by decide) rfl (stS hΩ 0 rfl) rfl ?_
        refine g_iload_n hX (dc_X12_wanted 36 rfl) rfl 2 rfl ?_
        refine g_chk (fun hc22 => ?_)
        refine g_iald hX (dc_X12_wanted 37 rfl) (stS hΩ 34 rfl) hc22 rfl ?_
        refine gV_WL (As := [.int y1, .int (sI σ 33 (ix y2)), .int (sI σ 34 (ix y2))]) (st := []) hX (dc_X12_wanted 38 rfl) ml_X12_369 (con_X12_answer hO hΩ y1 (sI σ 33 (ix y2)) (sI σ 34 (ix y2)) σ) (stS hΩ 0 rfl) rfl rfl ⟨by decide, by decide⟩ ⟨rfl, rfl⟩ ⟨Nat.zero_le _, Nat.zero_le _⟩ (Nat.le_of_ble_eq_true rfl) (fun r23 _ => ?_)
        refine g_lconst (w := (1 : Int64)) hX (dc_X12_wanted 39 rfl) (by decide) ?_
        refine g_lcmp hX (dc_X12_wanted 40 rfl) ?_
        refine g_if_ne (tgt := 83) hX (dc_X12_wanted 41 rfl) (by decide) (fun h24 => ?_) (fun h24 => ?_)
        · exact g_sub [0, 1, 2] rfl (c_X12_wanted_65 hX hO hΩ (y1) (y2) r23.2)
        · refine g_iinc (w := (y2 + (1 : Int32))) (L' := [(2, .int (y2 + (1 : Int32))), (0, .ref 0), (1, .int y1)]) hX (dc_X12_wanted 54 rfl) 2 rfl rfl (by decide) rfl ?_
          refine g_goto (tgt := 13) hX (dc_X12_wanted 55 rfl) (by decide) ?_
          exact g_sub [1, 2, 0] rfl (hk13 (y1) ((y2 + (1 : Int32))) r23.2 )
def b_X12_wanted_0     (σ : MS) : Option (Int64 × MS) := (b_X12_wanted_13 FU ((sI σ 1 9)) (((12 : Int32) * (sI σ 1 9))) σ)
set_option maxHeartbeats 4000000 in
set_option maxRecDepth 20000 in
theorem c_X12_wanted_0 {X : CX} {Ω : OM} (hX : CF X Ω RX12 cX12_wanted 3 (some .long) rm_X12_wanted) (hO : OKO Ω) (hΩ : oSH Ω = SHM)      (σ : MS)  : GE X Ω 3 0 0 (emWL) 0 0 0 [(0, .ref 0)] [] σ (b_X12_wanted_0  σ) := by
  unfold b_X12_wanted_0
  refine g_aload_n hX (dc_X12_wanted 0 rfl) rfl 0 rfl ?_
  refine g_getF (q := 1) hX (dc_X12_wanted 1 rfl) fl_X12_9 (by decide) rfl (stS hΩ 0 rfl) rfl ?_
  refine g_bipush (w := (9 : Int32)) hX (dc_X12_wanted 2 rfl) (by decide) ?_
  refine g_iald (j := 9) hX (dc_X12_wanted 3 rfl) (stS hΩ 1 rfl) (by decide) (by decide) ?_
  refine g_istore_n (L' := [(1, .int (sI σ 1 9)), (0, .ref 0)]) hX (dc_X12_wanted 4 rfl) rfl (by decide) rfl ?_
  refine g_bipush (w := (12 : Int32)) hX (dc_X12_wanted 5 rfl) (by decide) ?_
  refine g_iload_n hX (dc_X12_wanted 6 rfl) rfl 0 rfl ?_
  refine g_imul hX (dc_X12_wanted 7 rfl) ?_
  refine g_istore_n (L' := [(2, .int ((12 : Int32) * (sI σ 1 9))), (1, .int (sI σ 1 9)), (0, .ref 0)]) hX (dc_X12_wanted 8 rfl) rfl (by decide) rfl ?_
  exact g_sub [2, 1, 0] rfl (c_X12_wanted_13 hX hO hΩ FU ((sI σ 1 9)) (((12 : Int32) * (sI σ 1 9))) σ)
def f_X12_wanted  (σ : MS) : Option (Int64 × MS) := b_X12_wanted_0   σ
theorem con_X12_wanted {Ω : OM} (hO : OKO Ω) (hΩ : oSH Ω = SHM)  (σ : MS)  : Con Ω yX12_wanted cX12_wanted 3 (some .long) rm_X12_wanted (emWL) [.ref 0] σ (f_X12_wanted  σ) :=
  con_of hO (by decide +kernel) (Nat.le_of_ble_eq_true rfl) rfl (fun X hX _ => c_X12_wanted_0 hX hO hΩ    σ )
def it_X12_isAsleep : List (Nat × Instr × Nat × Nat) := [(0, .iload_n 2, 1, 1), (1, .bipush 24, 2, 3), (3, .irem, 1, 4), (4, .aload_n 0, 1, 5), (5, .getfield 22, 3, 8), (8, .iload_n 1, 1, 9), (9, .iaload, 1, 10), (10, .isub, 1, 11), (11, .bipush 24, 2, 13), (13, .iadd, 1, 14), (14, .bipush 24, 2, 16), (16, .irem, 1, 17), (17, .istore_n 3, 1, 18), (18, .iload_n 3, 1, 19), (19, .aload_n 0, 1, 20), (20, .getfield 25, 3, 23), (23, .iload_n 1, 1, 24), (24, .iaload, 1, 25), (25, .if_icmp .ge 7, 3, 28), (28, .iconst 1, 1, 29), (29, .goto 4, 3, 32), (32, .iconst 0, 1, 33), (33, .ireturn, 1, 34)]
theorem id_X12_isAsleep : ∀ q ∈ it_X12_isAsleep, decode cX12_isAsleep q.1 = .ok (q.2.1, q.2.2.1) ∧ q.1 + q.2.2.1 = q.2.2.2 := by decide +kernel
theorem dc_X12_isAsleep {pc : Nat} {i : Instr} {n pc' : Nat} (j : Nat) (h : it_X12_isAsleep[j]? = some (pc, i, n, pc')) : Dc cX12_isAsleep pc i n pc' := dc_of id_X12_isAsleep j h
abbrev rm_X12_isAsleep : Room := { frames := 0, cells := 0, slots := 0, locals := 0 }
def b_X12_isAsleep_33    (s0 : Int32) (σ : MS) : Option (Int32) := chk (s0 = 0 ∨ s0 = 1) (some s0)
set_option maxHeartbeats 4000000 in
set_option maxRecDepth 20000 in
theorem c_X12_isAsleep_33 {X : CX} {Ω : OM} (hX : CF X Ω RX12 cX12_isAsleep 4 (some .boolean) rm_X12_isAsleep) (hO : OKO Ω) (hΩ : oSH Ω = SHM)   (σ : MS)   (s0 : Int32)   : GE X Ω 4 0 0 (emPI σ) 0 0 33 [] [.int s0] σ (b_X12_isAsleep_33  s0 σ) := by
  unfold b_X12_isAsleep_33
  refine g_chk (fun hc5 => ?_)
  exact g_iret hX (dc_X12_isAsleep 22 rfl) (nz_bool hc5).1 rfl (Nat.le_refl _) (Nat.le_refl _)
def b_X12_isAsleep_18    (y1 : Int32) (y3 : Int32) (σ : MS) : Option (Int32) := chk (inb y1 4) ((if (sI σ 6 (ix y1)) ≤ y3 then (b_X12_isAsleep_33 ((0 : Int32)) σ) else (b_X12_isAsleep_33 ((1 : Int32)) σ)))
set_option maxHeartbeats 4000000 in
set_option maxRecDepth 20000 in
theorem c_X12_isAsleep_18 {X : CX} {Ω : OM} (hX : CF X Ω RX12 cX12_isAsleep 4 (some .boolean) rm_X12_isAsleep) (hO : OKO Ω) (hΩ : oSH Ω = SHM)   (σ : MS)   (y1 : Int32) (y3 : Int32)   : GE X Ω 4 0 0 (emPI σ) 0 0 18 [(0, .ref 0), (1, .int y1), (3, .int y3)] [] σ (b_X12_isAsleep_18  y1 y3 σ) := by
  unfold b_X12_isAsleep_18
  refine g_iload_n hX (dc_X12_isAsleep 13 rfl) rfl 2 rfl ?_
  refine g_aload_n hX (dc_X12_isAsleep 14 rfl) rfl 0 rfl ?_
  refine g_getF (q := 6) hX (dc_X12_isAsleep 15 rfl) fl_X12_25 (by decide) rfl (stS hΩ 0 rfl) rfl ?_
  refine g_iload_n hX (dc_X12_isAsleep 16 rfl) rfl 1 rfl ?_
  refine g_chk (fun hc6 => ?_)
  refine g_iald hX (dc_X12_isAsleep 17 rfl) (stS hΩ 6 rfl) hc6 rfl ?_
  refine g_icmp_ge (tgt := 32) hX (dc_X12_isAsleep 18 rfl) (by decide) (fun h7 => ?_) (fun h7 => ?_)
  · refine g_iconst (w := (0 : Int32)) hX (dc_X12_isAsleep 21 rfl) (by decide) ?_
    exact g_sub [] rfl (c_X12_isAsleep_33 hX hO hΩ σ ((0 : Int32)))
  · refine g_iconst (w := (1 : Int32)) hX (dc_X12_isAsleep 19 rfl) (by decide) ?_
    refine g_goto (tgt := 33) hX (dc_X12_isAsleep 20 rfl) (by decide) ?_
    exact g_sub [] rfl (c_X12_isAsleep_33 hX hO hΩ σ ((1 : Int32)))
def b_X12_isAsleep_0   (x1 : Int32) (x2 : Int32)  (σ : MS) : Option (Int32) := chk (inb x1 4) ((b_X12_isAsleep_18 (x1) (((((x2 - x2 / (24 : Int32) * (24 : Int32)) - (sI σ 5 (ix x1))) + (24 : Int32)) - (((x2 - x2 / (24 : Int32) * (24 : Int32)) - (sI σ 5 (ix x1))) + (24 : Int32)) / (24 : Int32) * (24 : Int32))) σ))
set_option maxHeartbeats 4000000 in
set_option maxRecDepth 20000 in
theorem c_X12_isAsleep_0 {X : CX} {Ω : OM} (hX : CF X Ω RX12 cX12_isAsleep 4 (some .boolean) rm_X12_isAsleep) (hO : OKO Ω) (hΩ : oSH Ω = SHM)   (σ : MS)  (x1 : Int32) (x2 : Int32)    : GE X Ω 4 0 0 (emPI σ) 0 0 0 [(0, .ref 0), (1, .int x1), (2, .int x2)] [] σ (b_X12_isAsleep_0  x1 x2 σ) := by
  unfold b_X12_isAsleep_0
  refine g_iload_n hX (dc_X12_isAsleep 0 rfl) rfl 2 rfl ?_
  refine g_bipush (w := (24 : Int32)) hX (dc_X12_isAsleep 1 rfl) (by decide) ?_
  refine g_irem hX (dc_X12_isAsleep 2 rfl) (by decide) ?_
  refine g_aload_n hX (dc_X12_isAsleep 3 rfl) rfl 0 rfl ?_
  refine g_getF (q := 5) hX (dc_X12_isAsleep 4 rfl) fl_X12_22 (by decide) rfl (stS hΩ 0 rfl) rfl ?_
  refine g_iload_n hX (dc_X12_isAsleep 5 rfl) rfl 1 rfl ?_
  refine g_chk (fun hc8 => ?_)
  refine g_iald hX (dc_X12_isAsleep 6 rfl) (stS hΩ 5 rfl) hc8 rfl ?_
  refine g_isub hX (dc_X12_isAsleep 7 rfl) ?_
  refine g_bipush (w := (24 : Int32)) hX (dc_X12_isAsleep 8 rfl) (by decide) ?_
  refine g_iadd hX (dc_X12_isAsleep 9 rfl) ?_
  refine g_bipush (w := (24 : Int32)) hX (dc_X12_isAsleep 10 rfl) (by decide) ?_
  refine g_irem hX (dc_X12_isAsleep 11 rfl) (by decide) ?_
  refine g_istore_n (L' := [(3, .int ((((x2 - x2 / (24 : Int32) * (24 : Int32)) - (sI σ 5 (ix x1))) + (24 : Int32)) - (((x2 - x2 / (24 : Int32) * (24 : Int32)) - (sI σ 5 (ix x1))) + (24 : Int32)) / (24 : Int32) * (24 : Int32))), (0, .ref 0), (1, .int x1), (2, .int x2)]) hX (dc_X12_isAsleep 12 rfl) rfl (by decide) rfl ?_
  exact g_sub [1, 2, 0] rfl (c_X12_isAsleep_18 hX hO hΩ σ (x1) (((((x2 - x2 / (24 : Int32) * (24 : Int32)) - (sI σ 5 (ix x1))) + (24 : Int32)) - (((x2 - x2 / (24 : Int32) * (24 : Int32)) - (sI σ 5 (ix x1))) + (24 : Int32)) / (24 : Int32) * (24 : Int32))))
def f_X12_isAsleep (x1 : Int32) (x2 : Int32) (σ : MS) : Option (Int32) := b_X12_isAsleep_0  x1 x2 σ
theorem con_X12_isAsleep {Ω : OM} (hO : OKO Ω) (hΩ : oSH Ω = SHM) (x1 : Int32) (x2 : Int32) (σ : MS)  : Con Ω yX12_isAsleep cX12_isAsleep 4 (some .boolean) rm_X12_isAsleep (emPI σ) [.ref 0, .int x1, .int x2] σ (f_X12_isAsleep x1 x2 σ) :=
  con_of hO (by decide +kernel) (Nat.le_of_ble_eq_true rfl) rfl (fun X hX _ => c_X12_isAsleep_0 hX hO hΩ   σ x1 x2)
def it_X12_awakeFor : List (Nat × Instr × Nat × Nat) := [(0, .iconst 0, 1, 1), (1, .istore_n 3, 1, 2), (2, .iload_n 3, 1, 3), (3, .bipush 24, 2, 5), (5, .if_icmp .ge 20, 3, 8), (8, .aload_n 0, 1, 9), (9, .iload_n 1, 1, 10), (10, .iload_n 2, 1, 11), (11, .iload_n 3, 1, 12), (12, .iadd, 1, 13), (13, .invokevirtual 381, 3, 16), (16, .ifCond .ne 9, 3, 19), (19, .iinc 3 1, 3, 22), (22, .goto (-20), 3, 25), (25, .iload_n 3, 1, 26), (26, .ireturn, 1, 27)]
theorem id_X12_awakeFor : ∀ q ∈ it_X12_awakeFor, decode cX12_awakeFor q.1 = .ok (q.2.1, q.2.2.1) ∧ q.1 + q.2.2.1 = q.2.2.2 := by decide +kernel
theorem dc_X12_awakeFor {pc : Nat} {i : Instr} {n pc' : Nat} (j : Nat) (h : it_X12_awakeFor[j]? = some (pc, i, n, pc')) : Dc cX12_awakeFor pc i n pc' := dc_of id_X12_awakeFor j h
abbrev rm_X12_awakeFor : Room := { frames := 1, cells := 0, slots := 0, locals := 23 }
def b_X12_awakeFor_25    (y3 : Int32) (σ : MS) : Option (Int32) := some y3
set_option maxHeartbeats 4000000 in
set_option maxRecDepth 20000 in
theorem c_X12_awakeFor_25 {X : CX} {Ω : OM} (hX : CF X Ω RX12 cX12_awakeFor 4 (some .int) rm_X12_awakeFor) (hO : OKO Ω) (hΩ : oSH Ω = SHM)   (σ : MS)   (y3 : Int32)   : GE X Ω 4 0 0 (emPI σ) 0 0 25 [(3, .int y3)] [] σ (b_X12_awakeFor_25  y3 σ) := by
  unfold b_X12_awakeFor_25
  refine g_iload_n hX (dc_X12_awakeFor 14 rfl) rfl 0 rfl ?_
  exact g_iret hX (dc_X12_awakeFor 15 rfl) rfl rfl (Nat.le_refl _) (Nat.le_refl _)
def b_X12_awakeFor_2   : Nat → Int32 → Int32 → Int32 → MS → Option (Int32)
  | 0, _, _, _, _ => none
  | n + 1, y1, y2, y3, σ => (if (24 : Int32) ≤ y3 then (b_X12_awakeFor_25 (y3) σ) else (f_X12_isAsleep y1 (y2 + y3) σ).bind (fun r5 => (if r5 = 0 then ((b_X12_awakeFor_2  n) (y1) (y2) ((y3 + (1 : Int32))) σ) else (b_X12_awakeFor_25 (y3) σ))))
set_option maxHeartbeats 4000000 in
set_option maxRecDepth 20000 in
theorem c_X12_awakeFor_2 {X : CX} {Ω : OM} (hX : CF X Ω RX12 cX12_awakeFor 4 (some .int) rm_X12_awakeFor) (hO : OKO Ω) (hΩ : oSH Ω = SHM)   (σ : MS)  : ∀ (n : Nat) (y1 : Int32) (y2 : Int32) (y3 : Int32)  , GE X Ω 4 0 0 (emPI σ) 0 0 2 [(0, .ref 0), (1, .int y1), (2, .int y2), (3, .int y3)] [] σ (b_X12_awakeFor_2  n y1 y2 y3 σ)
  | 0, _, _, _ => g_none
  | n + 1, y1, y2, y3 => by
    have hk2 := c_X12_awakeFor_2 hX hO hΩ  σ n
    unfold b_X12_awakeFor_2
    refine g_iload_n hX (dc_X12_awakeFor 2 rfl) rfl 3 rfl ?_
    refine g_bipush (w := (24 : Int32)) hX (dc_X12_awakeFor 3 rfl) (by decide) ?_
    refine g_icmp_ge (tgt := 25) hX (dc_X12_awakeFor 4 rfl) (by decide) (fun h4 => ?_) (fun h4 => ?_)
    · exact g_sub [3] rfl (c_X12_awakeFor_25 hX hO hΩ σ (y3))
    · refine g_aload_n hX (dc_X12_awakeFor 5 rfl) rfl 0 rfl ?_
      refine g_iload_n hX (dc_X12_awakeFor 6 rfl) rfl 1 rfl ?_
      refine g_iload_n hX (dc_X12_awakeFor 7 rfl) rfl 2 rfl ?_
      refine g_iload_n hX (dc_X12_awakeFor 8 rfl) rfl 3 rfl ?_
      refine g_iadd hX (dc_X12_awakeFor 9 rfl) ?_
      refine gV_PI (As := [.int y1, .int (y2 + y3)]) (st := []) hX (dc_X12_awakeFor 10 rfl) ml_X12_381 (con_X12_isAsleep hO hΩ y1 (y2 + y3) σ) (stS hΩ 0 rfl) rfl rfl ⟨by decide, by decide⟩ ⟨rfl, rfl⟩ ⟨Nat.zero_le _, Nat.zero_le _⟩ (Nat.le_of_ble_eq_true rfl) (fun r5 _ => ?_)
      refine g_if_ne (tgt := 25) hX (dc_X12_awakeFor 11 rfl) (by decide) (fun h6 => ?_) (fun h6 => ?_)
      · refine g_iinc (w := (y3 + (1 : Int32))) (L' := [(3, .int (y3 + (1 : Int32))), (0, .ref 0), (1, .int y1), (2, .int y2)]) hX (dc_X12_awakeFor 12 rfl) 3 rfl rfl (by decide) rfl ?_
        refine g_goto (tgt := 2) hX (dc_X12_awakeFor 13 rfl) (by decide) ?_
        exact g_sub [1, 2, 3, 0] rfl (hk2 (y1) (y2) ((y3 + (1 : Int32))) )
      · exact g_sub [3] rfl (c_X12_awakeFor_25 hX hO hΩ σ (y3))
def b_X12_awakeFor_0   (x1 : Int32) (x2 : Int32)  (σ : MS) : Option (Int32) := (b_X12_awakeFor_2 FU (x1) (x2) ((0 : Int32)) σ)
set_option maxHeartbeats 4000000 in
set_option maxRecDepth 20000 in
theorem c_X12_awakeFor_0 {X : CX} {Ω : OM} (hX : CF X Ω RX12 cX12_awakeFor 4 (some .int) rm_X12_awakeFor) (hO : OKO Ω) (hΩ : oSH Ω = SHM)   (σ : MS)  (x1 : Int32) (x2 : Int32)    : GE X Ω 4 0 0 (emPI σ) 0 0 0 [(0, .ref 0), (1, .int x1), (2, .int x2)] [] σ (b_X12_awakeFor_0  x1 x2 σ) := by
  unfold b_X12_awakeFor_0
  refine g_iconst (w := (0 : Int32)) hX (dc_X12_awakeFor 0 rfl) (by decide) ?_
  refine g_istore_n (L' := [(3, .int (0 : Int32)), (0, .ref 0), (1, .int x1), (2, .int x2)]) hX (dc_X12_awakeFor 1 rfl) rfl (by decide) rfl ?_
  exact g_sub [1, 2, 3, 0] rfl (c_X12_awakeFor_2 hX hO hΩ σ FU (x1) (x2) ((0 : Int32)))
def f_X12_awakeFor (x1 : Int32) (x2 : Int32) (σ : MS) : Option (Int32) := b_X12_awakeFor_0  x1 x2 σ
theorem con_X12_awakeFor {Ω : OM} (hO : OKO Ω) (hΩ : oSH Ω = SHM) (x1 : Int32) (x2 : Int32) (σ : MS)  : Con Ω yX12_awakeFor cX12_awakeFor 4 (some .int) rm_X12_awakeFor (emPI σ) [.ref 0, .int x1, .int x2] σ (f_X12_awakeFor x1 x2 σ) :=
  con_of hO (by decide +kernel) (Nat.le_of_ble_eq_true rfl) rfl (fun X hX _ => c_X12_awakeFor_0 hX hO hΩ   σ x1 x2)
def it_X12_awakeAt : List (Nat × Instr × Nat × Nat) := [(0, .iconst 0, 1, 1), (1, .istore_n 2, 1, 2), (2, .iconst 0, 1, 3), (3, .istore_n 3, 1, 4), (4, .iload_n 3, 1, 5), (5, .aload_n 0, 1, 6), (6, .getfield 9, 3, 9), (9, .iconst 3, 1, 10), (10, .iaload, 1, 11), (11, .if_icmp .ge 28, 3, 14), (14, .iload_n 2, 1, 15), (15, .aload_n 0, 1, 16), (16, .iload_n 3, 1, 17), (17, .iload_n 1, 1, 18), (18, .invokevirtual 381, 3, 21), (21, .ifCond .eq 7, 3, 24), (24, .iconst 0, 1, 25), (25, .goto 6, 3, 28), (28, .iconst 1, 1, 29), (29, .iload_n 3, 1, 30), (30, .ishl, 1, 31), (31, .ior, 1, 32), (32, .istore_n 2, 1, 33), (33, .iinc 3 1, 3, 36), (36, .goto (-32), 3, 39), (39, .iload_n 2, 1, 40), (40, .ireturn, 1, 41)]
theorem id_X12_awakeAt : ∀ q ∈ it_X12_awakeAt, decode cX12_awakeAt q.1 = .ok (q.2.1, q.2.2.1) ∧ q.1 + q.2.2.1 = q.2.2.2 := by decide +kernel
theorem dc_X12_awakeAt {pc : Nat} {i : Instr} {n pc' : Nat} (j : Nat) (h : it_X12_awakeAt[j]? = some (pc, i, n, pc')) : Dc cX12_awakeAt pc i n pc' := dc_of id_X12_awakeAt j h
abbrev rm_X12_awakeAt : Room := { frames := 1, cells := 0, slots := 0, locals := 23 }
def b_X12_awakeAt_31  (k4 : Int32 → Int32 → Int32 → MS → Option (Int32))  (y1 : Int32) (y3 : Int32) (s0 : Int32) (s1 : Int32) (σ : MS) : Option (Int32) := (k4 (y1) ((s1 ||| s0)) ((y3 + (1 : Int32))) σ)
set_option maxHeartbeats 4000000 in
set_option maxRecDepth 20000 in
theorem c_X12_awakeAt_31 {X : CX} {Ω : OM} (hX : CF X Ω RX12 cX12_awakeAt 4 (some .int) rm_X12_awakeAt) (hO : OKO Ω) (hΩ : oSH Ω = SHM)   (σ : MS) (k4 : Int32 → Int32 → Int32 → MS → Option (Int32)) (hk4 : ∀ (y1 : Int32) (y2 : Int32) (y3 : Int32), GE X Ω 4 0 0 (emPI σ) 0 0 4 [(0, .ref 0), (1, .int y1), (2, .int y2), (3, .int y3)] [] σ (k4 y1 y2 y3 σ))  (y1 : Int32) (y3 : Int32) (s0 : Int32) (s1 : Int32)   : GE X Ω 4 0 0 (emPI σ) 0 0 31 [(0, .ref 0), (1, .int y1), (3, .int y3)] [.int s0, .int s1] σ (b_X12_awakeAt_31  k4 y1 y3 s0 s1 σ) := by
  unfold b_X12_awakeAt_31
  refine g_ior hX (dc_X12_awakeAt 21 rfl) ?_
  refine g_istore_n (L' := [(2, .int (s1 ||| s0)), (0, .ref 0), (1, .int y1), (3, .int y3)]) hX (dc_X12_awakeAt 22 rfl) rfl (by decide) rfl ?_
  refine g_iinc (w := (y3 + (1 : Int32))) (L' := [(3, .int (y3 + (1 : Int32))), (2, .int (s1 ||| s0)), (0, .ref 0), (1, .int y1)]) hX (dc_X12_awakeAt 23 rfl) 3 rfl rfl (by decide) rfl ?_
  refine g_goto (tgt := 4) hX (dc_X12_awakeAt 24 rfl) (by decide) ?_
  exact g_sub [2, 3, 1, 0] rfl (hk4 (y1) ((s1 ||| s0)) ((y3 + (1 : Int32))) )
def b_X12_awakeAt_4   : Nat → Int32 → Int32 → Int32 → MS → Option (Int32)
  | 0, _, _, _, _ => none
  | n + 1, y1, y2, y3, σ => (if (sI σ 1 3) ≤ y3 then some y2 else (f_X12_isAsleep y3 y1 σ).bind (fun r5 => (if r5 = 0 then (b_X12_awakeAt_31 (b_X12_awakeAt_4  n) (y1) (y3) (((1 : Int32) <<< (y3 &&& 31))) (y2) σ) else (b_X12_awakeAt_31 (b_X12_awakeAt_4  n) (y1) (y3) ((0 : Int32)) (y2) σ))))
set_option maxHeartbeats 4000000 in
set_option maxRecDepth 20000 in
theorem c_X12_awakeAt_4 {X : CX} {Ω : OM} (hX : CF X Ω RX12 cX12_awakeAt 4 (some .int) rm_X12_awakeAt) (hO : OKO Ω) (hΩ : oSH Ω = SHM)   (σ : MS)  : ∀ (n : Nat) (y1 : Int32) (y2 : Int32) (y3 : Int32)  , GE X Ω 4 0 0 (emPI σ) 0 0 4 [(0, .ref 0), (1, .int y1), (2, .int y2), (3, .int y3)] [] σ (b_X12_awakeAt_4  n y1 y2 y3 σ)
  | 0, _, _, _ => g_none
  | n + 1, y1, y2, y3 => by
    have hk4 := c_X12_awakeAt_4 hX hO hΩ  σ n
    unfold b_X12_awakeAt_4
    refine g_iload_n hX (dc_X12_awakeAt 4 rfl) rfl 3 rfl ?_
    refine g_aload_n hX (dc_X12_awakeAt 5 rfl) rfl 0 rfl ?_
    refine g_getF (q := 1) hX (dc_X12_awakeAt 6 rfl) fl_X12_9 (by decide) rfl (stS hΩ 0 rfl) rfl ?_
    refine g_iconst (w := (3 : Int32)) hX (dc_X12_awakeAt 7 rfl) (by decide) ?_
    refine g_iald (j := 3) hX (dc_X12_awakeAt 8 rfl) (stS hΩ 1 rfl) (by decide) (by decide) ?_
    refine g_icmp_ge (tgt := 39) hX (dc_X12_awakeAt 9 rfl) (by decide) (fun h4 => ?_) (fun h4 => ?_)
    · refine g_iload_n hX (dc_X12_awakeAt 25 rfl) rfl 2 rfl ?_
      exact g_iret hX (dc_X12_awakeAt 26 rfl) rfl rfl (Nat.le_refl _) (Nat.le_refl _)
    · refine g_iload_n hX (dc_X12_awakeAt 10 rfl) rfl 2 rfl ?_
      refine g_aload_n hX (dc_X12_awakeAt 11 rfl) rfl 0 rfl ?_
      refine g_iload_n hX (dc_X12_awakeAt 12 rfl) rfl 3 rfl ?_
      refine g_iload_n hX (dc_X12_awakeAt 13 rfl) rfl 1 rfl ?_
      refine gV_PI (As := [.int y3, .int y1]) (st := [.int y2]) hX (dc_X12_awakeAt 14 rfl) ml_X12_381 (con_X12_isAsleep hO hΩ y3 y1 σ) (stS hΩ 0 rfl) rfl rfl ⟨by decide, by decide⟩ ⟨rfl, rfl⟩ ⟨Nat.zero_le _, Nat.zero_le _⟩ (Nat.le_of_ble_eq_true rfl) (fun r5 _ => ?_)
      refine g_if_eq (tgt := 28) hX (dc_X12_awakeAt 15 rfl) (by decide) (fun h6 => ?_) (fun h6 => ?_)
      · refine g_iconst (w := (1 : Int32)) hX (dc_X12_awakeAt 18 rfl) (by decide) ?_
        refine g_iload_n hX (dc_X12_awakeAt 19 rfl) rfl 3 rfl ?_
        refine g_ishl hX (dc_X12_awakeAt 20 rfl) ?_
        exact g_sub [0, 1, 3] rfl (c_X12_awakeAt_31 hX hO hΩ σ _ hk4 (y1) (y3) (((1 : Int32) <<< (y3 &&& 31))) (y2))
      · refine g_iconst (w := (0 : Int32)) hX (dc_X12_awakeAt 16 rfl) (by decide) ?_
        refine g_goto (tgt := 31) hX (dc_X12_awakeAt 17 rfl) (by decide) ?_
        exact g_sub [0, 1, 3] rfl (c_X12_awakeAt_31 hX hO hΩ σ _ hk4 (y1) (y3) ((0 : Int32)) (y2))
def b_X12_awakeAt_0   (x1 : Int32)  (σ : MS) : Option (Int32) := (b_X12_awakeAt_4 FU (x1) ((0 : Int32)) ((0 : Int32)) σ)
set_option maxHeartbeats 4000000 in
set_option maxRecDepth 20000 in
theorem c_X12_awakeAt_0 {X : CX} {Ω : OM} (hX : CF X Ω RX12 cX12_awakeAt 4 (some .int) rm_X12_awakeAt) (hO : OKO Ω) (hΩ : oSH Ω = SHM)   (σ : MS)  (x1 : Int32)    : GE X Ω 4 0 0 (emPI σ) 0 0 0 [(0, .ref 0), (1, .int x1)] [] σ (b_X12_awakeAt_0  x1 σ) := by
  unfold b_X12_awakeAt_0
  refine g_iconst (w := (0 : Int32)) hX (dc_X12_awakeAt 0 rfl) (by decide) ?_
  refine g_istore_n (L' := [(2, .int (0 : Int32)), (0, .ref 0), (1, .int x1)]) hX (dc_X12_awakeAt 1 rfl) rfl (by decide) rfl ?_
  refine g_iconst (w := (0 : Int32)) hX (dc_X12_awakeAt 2 rfl) (by decide) ?_
  refine g_istore_n (L' := [(3, .int (0 : Int32)), (2, .int (0 : Int32)), (0, .ref 0), (1, .int x1)]) hX (dc_X12_awakeAt 3 rfl) rfl (by decide) rfl ?_
  exact g_sub [2, 3, 1, 0] rfl (c_X12_awakeAt_4 hX hO hΩ σ FU (x1) ((0 : Int32)) ((0 : Int32)))
def f_X12_awakeAt (x1 : Int32) (σ : MS) : Option (Int32) := b_X12_awakeAt_0  x1 σ
theorem con_X12_awakeAt {Ω : OM} (hO : OKO Ω) (hΩ : oSH Ω = SHM) (x1 : Int32) (σ : MS)  : Con Ω yX12_awakeAt cX12_awakeAt 4 (some .int) rm_X12_awakeAt (emPI σ) [.ref 0, .int x1] σ (f_X12_awakeAt x1 σ) :=
  con_of hO (by decide +kernel) (Nat.le_of_ble_eq_true rfl) rfl (fun X hX _ => c_X12_awakeAt_0 hX hO hΩ   σ x1)
def it_X12_heldBy : List (Nat × Instr × Nat × Nat) := [(0, .iconst 0, 1, 1), (1, .istore_n 2, 1, 2), (2, .iconst 0, 1, 3), (3, .istore_n 3, 1, 4), (4, .iload_n 3, 1, 5), (5, .aload_n 0, 1, 6), (6, .getfield 9, 3, 9), (9, .iconst 4, 1, 10), (10, .iaload, 1, 11), (11, .if_icmp .ge 29, 3, 14), (14, .iload_n 2, 1, 15), (15, .aload_n 0, 1, 16), (16, .getfield 34, 3, 19), (19, .iload_n 3, 1, 20), (20, .iaload, 1, 21), (21, .iload_n 1, 1, 22), (22, .if_icmp .ne 9, 3, 25), (25, .iconst 1, 1, 26), (26, .iload_n 3, 1, 27), (27, .ishl, 1, 28), (28, .goto 4, 3, 31), (31, .iconst 0, 1, 32), (32, .ior, 1, 33), (33, .istore_n 2, 1, 34), (34, .iinc 3 1, 3, 37), (37, .goto (-33), 3, 40), (40, .iload_n 2, 1, 41), (41, .ireturn, 1, 42)]
theorem id_X12_heldBy : ∀ q ∈ it_X12_heldBy, decode cX12_heldBy q.1 = .ok (q.2.1, q.2.2.1) ∧ q.1 + q.2.2.1 = q.2.2.2 := by decide +kernel
theorem dc_X12_heldBy {pc : Nat} {i : Instr} {n pc' : Nat} (j : Nat) (h : it_X12_heldBy[j]? = some (pc, i, n, pc')) : Dc cX12_heldBy pc i n pc' := dc_of id_X12_heldBy j h
abbrev rm_X12_heldBy : Room := { frames := 0, cells := 0, slots := 0, locals := 0 }
def b_X12_heldBy_32  (k4 : Int32 → Int32 → Int32 → MS → Option (Int32))  (y1 : Int32) (y3 : Int32) (s0 : Int32) (s1 : Int32) (σ : MS) : Option (Int32) := (k4 (y1) ((s1 ||| s0)) ((y3 + (1 : Int32))) σ)
set_option maxHeartbeats 4000000 in
set_option maxRecDepth 20000 in
theorem c_X12_heldBy_32 {X : CX} {Ω : OM} (hX : CF X Ω RX12 cX12_heldBy 4 (some .int) rm_X12_heldBy) (hO : OKO Ω) (hΩ : oSH Ω = SHM)   (σ : MS) (k4 : Int32 → Int32 → Int32 → MS → Option (Int32)) (hk4 : ∀ (y1 : Int32) (y2 : Int32) (y3 : Int32), GE X Ω 4 0 0 (emPI σ) 0 0 4 [(0, .ref 0), (1, .int y1), (2, .int y2), (3, .int y3)] [] σ (k4 y1 y2 y3 σ))  (y1 : Int32) (y3 : Int32) (s0 : Int32) (s1 : Int32)   : GE X Ω 4 0 0 (emPI σ) 0 0 32 [(0, .ref 0), (1, .int y1), (3, .int y3)] [.int s0, .int s1] σ (b_X12_heldBy_32  k4 y1 y3 s0 s1 σ) := by
  unfold b_X12_heldBy_32
  refine g_ior hX (dc_X12_heldBy 22 rfl) ?_
  refine g_istore_n (L' := [(2, .int (s1 ||| s0)), (0, .ref 0), (1, .int y1), (3, .int y3)]) hX (dc_X12_heldBy 23 rfl) rfl (by decide) rfl ?_
  refine g_iinc (w := (y3 + (1 : Int32))) (L' := [(3, .int (y3 + (1 : Int32))), (2, .int (s1 ||| s0)), (0, .ref 0), (1, .int y1)]) hX (dc_X12_heldBy 24 rfl) 3 rfl rfl (by decide) rfl ?_
  refine g_goto (tgt := 4) hX (dc_X12_heldBy 25 rfl) (by decide) ?_
  exact g_sub [2, 3, 1, 0] rfl (hk4 (y1) ((s1 ||| s0)) ((y3 + (1 : Int32))) )
def b_X12_heldBy_4   : Nat → Int32 → Int32 → Int32 → MS → Option (Int32)
  | 0, _, _, _, _ => none
  | n + 1, y1, y2, y3, σ => (if (sI σ 1 4) ≤ y3 then some y2 else chk (inb y3 6) ((if (sI σ 9 (ix y3)) = y1 then (b_X12_heldBy_32 (b_X12_heldBy_4  n) (y1) (y3) (((1 : Int32) <<< (y3 &&& 31))) (y2) σ) else (b_X12_heldBy_32 (b_X12_heldBy_4  n) (y1) (y3) ((0 : Int32)) (y2) σ))))
set_option maxHeartbeats 4000000 in
set_option maxRecDepth 20000 in
theorem c_X12_heldBy_4 {X : CX} {Ω : OM} (hX : CF X Ω RX12 cX12_heldBy 4 (some .int) rm_X12_heldBy) (hO : OKO Ω) (hΩ : oSH Ω = SHM)   (σ : MS)  : ∀ (n : Nat) (y1 : Int32) (y2 : Int32) (y3 : Int32)  , GE X Ω 4 0 0 (emPI σ) 0 0 4 [(0, .ref 0), (1, .int y1), (2, .int y2), (3, .int y3)] [] σ (b_X12_heldBy_4  n y1 y2 y3 σ)
  | 0, _, _, _ => g_none
  | n + 1, y1, y2, y3 => by
    have hk4 := c_X12_heldBy_4 hX hO hΩ  σ n
    unfold b_X12_heldBy_4
    refine g_iload_n hX (dc_X12_heldBy 4 rfl) rfl 3 rfl ?_
    refine g_aload_n hX (dc_X12_heldBy 5 rfl) rfl 0 rfl ?_
    refine g_getF (q := 1) hX (dc_X12_heldBy 6 rfl) fl_X12_9 (by decide) rfl (stS hΩ 0 rfl) rfl ?_
    refine g_iconst (w := (4 : Int32)) hX (dc_X12_heldBy 7 rfl) (by decide) ?_
    refine g_iald (j := 4) hX (dc_X12_heldBy 8 rfl) (stS hΩ 1 rfl) (by decide) (by decide) ?_
    refine g_icmp_ge (tgt := 40) hX (dc_X12_heldBy 9 rfl) (by decide) (fun h4 => ?_) (fun h4 => ?_)
    · refine g_iload_n hX (dc_X12_heldBy 26 rfl) rfl 2 rfl ?_
      exact g_iret hX (dc_X12_heldBy 27 rfl) rfl rfl (Nat.le_refl _) (Nat.le_refl _)
    · refine g_iload_n hX (dc_X12_heldBy 10 rfl) rfl 2 rfl ?_
      refine g_aload_n hX (dc_X12_heldBy 11 rfl) rfl 0 rfl ?_
      refine g_getF (q := 9) hX (dc_X12_heldBy 12 rfl) fl_X12_34 (by decide) rfl (stS hΩ 0 rfl) rfl ?_
      refine g_iload_n hX (dc_X12_heldBy 13 rfl) rfl 3 rfl ?_
      refine g_chk (fun hc5 => ?_)
      refine g_iald hX (dc_X12_heldBy 14 rfl) (stS hΩ 9 rfl) hc5 rfl ?_
      refine g_iload_n hX (dc_X12_heldBy 15 rfl) rfl 1 rfl ?_
      refine g_icmp_ne (tgt := 31) hX (dc_X12_heldBy 16 rfl) (by decide) (fun h6 => ?_) (fun h6 => ?_)
      · refine g_iconst (w := (1 : Int32)) hX (dc_X12_heldBy 17 rfl) (by decide) ?_
        refine g_iload_n hX (dc_X12_heldBy 18 rfl) rfl 3 rfl ?_
        refine g_ishl hX (dc_X12_heldBy 19 rfl) ?_
        refine g_goto (tgt := 32) hX (dc_X12_heldBy 20 rfl) (by decide) ?_
        exact g_sub [0, 1, 3] rfl (c_X12_heldBy_32 hX hO hΩ σ _ hk4 (y1) (y3) (((1 : Int32) <<< (y3 &&& 31))) (y2))
      · refine g_iconst (w := (0 : Int32)) hX (dc_X12_heldBy 21 rfl) (by decide) ?_
        exact g_sub [0, 1, 3] rfl (c_X12_heldBy_32 hX hO hΩ σ _ hk4 (y1) (y3) ((0 : Int32)) (y2))
def b_X12_heldBy_0   (x1 : Int32)  (σ : MS) : Option (Int32) := (b_X12_heldBy_4 FU (x1) ((0 : Int32)) ((0 : Int32)) σ)
set_option maxHeartbeats 4000000 in
set_option maxRecDepth 20000 in
theorem c_X12_heldBy_0 {X : CX} {Ω : OM} (hX : CF X Ω RX12 cX12_heldBy 4 (some .int) rm_X12_heldBy) (hO : OKO Ω) (hΩ : oSH Ω = SHM)   (σ : MS)  (x1 : Int32)    : GE X Ω 4 0 0 (emPI σ) 0 0 0 [(0, .ref 0), (1, .int x1)] [] σ (b_X12_heldBy_0  x1 σ) := by
  unfold b_X12_heldBy_0
  refine g_iconst (w := (0 : Int32)) hX (dc_X12_heldBy 0 rfl) (by decide) ?_
  refine g_istore_n (L' := [(2, .int (0 : Int32)), (0, .ref 0), (1, .int x1)]) hX (dc_X12_heldBy 1 rfl) rfl (by decide) rfl ?_
  refine g_iconst (w := (0 : Int32)) hX (dc_X12_heldBy 2 rfl) (by decide) ?_
  refine g_istore_n (L' := [(3, .int (0 : Int32)), (2, .int (0 : Int32)), (0, .ref 0), (1, .int x1)]) hX (dc_X12_heldBy 3 rfl) rfl (by decide) rfl ?_
  exact g_sub [2, 3, 1, 0] rfl (c_X12_heldBy_4 hX hO hΩ σ FU (x1) ((0 : Int32)) ((0 : Int32)))
def f_X12_heldBy (x1 : Int32) (σ : MS) : Option (Int32) := b_X12_heldBy_0  x1 σ
theorem con_X12_heldBy {Ω : OM} (hO : OKO Ω) (hΩ : oSH Ω = SHM) (x1 : Int32) (σ : MS)  : Con Ω yX12_heldBy cX12_heldBy 4 (some .int) rm_X12_heldBy (emPI σ) [.ref 0, .int x1] σ (f_X12_heldBy x1 σ) :=
  con_of hO (by decide +kernel) (Nat.le_of_ble_eq_true rfl) rfl (fun X hX _ => c_X12_heldBy_0 hX hO hΩ   σ x1)
def it_X12_bits : List (Nat × Instr × Nat × Nat) := [(0, .iconst 0, 1, 1), (1, .istore_n 1, 1, 2), (2, .iconst 0, 1, 3), (3, .istore_n 2, 1, 4), (4, .iload_n 2, 1, 5), (5, .bipush 16, 2, 7), (7, .if_icmp .ge 17, 3, 10), (10, .iload_n 1, 1, 11), (11, .iload_n 0, 1, 12), (12, .iload_n 2, 1, 13), (13, .ishr, 1, 14), (14, .iconst 1, 1, 15), (15, .iand, 1, 16), (16, .iadd, 1, 17), (17, .istore_n 1, 1, 18), (18, .iinc 2 1, 3, 21), (21, .goto (-17), 3, 24), (24, .iload_n 1, 1, 25), (25, .ireturn, 1, 26)]
theorem id_X12_bits : ∀ q ∈ it_X12_bits, decode cX12_bits q.1 = .ok (q.2.1, q.2.2.1) ∧ q.1 + q.2.2.1 = q.2.2.2 := by decide +kernel
theorem dc_X12_bits {pc : Nat} {i : Instr} {n pc' : Nat} (j : Nat) (h : it_X12_bits[j]? = some (pc, i, n, pc')) : Dc cX12_bits pc i n pc' := dc_of id_X12_bits j h
abbrev rm_X12_bits : Room := { frames := 0, cells := 0, slots := 0, locals := 0 }
def b_X12_bits_4   : Nat → Int32 → Int32 → Int32 → Option (Int32)
  | 0, _, _, _ => none
  | n + 1, y0, y1, y2 => (if (16 : Int32) ≤ y2 then some y1 else ((b_X12_bits_4  n) (y0) ((y1 + ((y0 >>> (y2 &&& 31)) &&& (1 : Int32)))) ((y2 + (1 : Int32)))))
set_option maxHeartbeats 4000000 in
set_option maxRecDepth 20000 in
theorem c_X12_bits_4 {X : CX} {Ω : OM} (hX : CF X Ω RX12 cX12_bits 3 (some .int) rm_X12_bits) (hO : OKO Ω) (hΩ : oSH Ω = SHM)   (σ : MS)  : ∀ (n : Nat) (y0 : Int32) (y1 : Int32) (y2 : Int32)  , GE X Ω 3 0 0 (emPI σ) 0 0 4 [(0, .int y0), (1, .int y1), (2, .int y2)] [] σ (b_X12_bits_4  n y0 y1 y2)
  | 0, _, _, _ => g_none
  | n + 1, y0, y1, y2 => by
    have hk4 := c_X12_bits_4 hX hO hΩ  σ n
    unfold b_X12_bits_4
    refine g_iload_n hX (dc_X12_bits 4 rfl) rfl 2 rfl ?_
    refine g_bipush (w := (16 : Int32)) hX (dc_X12_bits 5 rfl) (by decide) ?_
    refine g_icmp_ge (tgt := 24) hX (dc_X12_bits 6 rfl) (by decide) (fun h2 => ?_) (fun h2 => ?_)
    · refine g_iload_n hX (dc_X12_bits 17 rfl) rfl 1 rfl ?_
      exact g_iret hX (dc_X12_bits 18 rfl) rfl rfl (Nat.le_refl _) (Nat.le_refl _)
    · refine g_iload_n hX (dc_X12_bits 7 rfl) rfl 1 rfl ?_
      refine g_iload_n hX (dc_X12_bits 8 rfl) rfl 0 rfl ?_
      refine g_iload_n hX (dc_X12_bits 9 rfl) rfl 2 rfl ?_
      refine g_ishr hX (dc_X12_bits 10 rfl) ?_
      refine g_iconst (w := (1 : Int32)) hX (dc_X12_bits 11 rfl) (by decide) ?_
      refine g_iand hX (dc_X12_bits 12 rfl) ?_
      refine g_iadd hX (dc_X12_bits 13 rfl) ?_
      refine g_istore_n (L' := [(1, .int (y1 + ((y0 >>> (y2 &&& 31)) &&& (1 : Int32)))), (0, .int y0), (2, .int y2)]) hX (dc_X12_bits 14 rfl) rfl (by decide) rfl ?_
      refine g_iinc (w := (y2 + (1 : Int32))) (L' := [(2, .int (y2 + (1 : Int32))), (1, .int (y1 + ((y0 >>> (y2 &&& 31)) &&& (1 : Int32)))), (0, .int y0)]) hX (dc_X12_bits 15 rfl) 2 rfl rfl (by decide) rfl ?_
      refine g_goto (tgt := 4) hX (dc_X12_bits 16 rfl) (by decide) ?_
      exact g_sub [2, 1, 0] rfl (hk4 (y0) ((y1 + ((y0 >>> (y2 &&& 31)) &&& (1 : Int32)))) ((y2 + (1 : Int32))) )
def b_X12_bits_0   (x0 : Int32)   : Option (Int32) := (b_X12_bits_4 FU (x0) ((0 : Int32)) ((0 : Int32)))
set_option maxHeartbeats 4000000 in
set_option maxRecDepth 20000 in
theorem c_X12_bits_0 {X : CX} {Ω : OM} (hX : CF X Ω RX12 cX12_bits 3 (some .int) rm_X12_bits) (hO : OKO Ω) (hΩ : oSH Ω = SHM)   (σ : MS)  (x0 : Int32)    : GE X Ω 3 0 0 (emPI σ) 0 0 0 [(0, .int x0)] [] σ (b_X12_bits_0  x0) := by
  unfold b_X12_bits_0
  refine g_iconst (w := (0 : Int32)) hX (dc_X12_bits 0 rfl) (by decide) ?_
  refine g_istore_n (L' := [(1, .int (0 : Int32)), (0, .int x0)]) hX (dc_X12_bits 1 rfl) rfl (by decide) rfl ?_
  refine g_iconst (w := (0 : Int32)) hX (dc_X12_bits 2 rfl) (by decide) ?_
  refine g_istore_n (L' := [(2, .int (0 : Int32)), (1, .int (0 : Int32)), (0, .int x0)]) hX (dc_X12_bits 3 rfl) rfl (by decide) rfl ?_
  exact g_sub [2, 1, 0] rfl (c_X12_bits_4 hX hO hΩ σ FU (x0) ((0 : Int32)) ((0 : Int32)))
def f_X12_bits (x0 : Int32)  : Option (Int32) := b_X12_bits_0  x0 
theorem con_X12_bits {Ω : OM} (hO : OKO Ω) (hΩ : oSH Ω = SHM) (x0 : Int32) (σ : MS)  : Con Ω yX12_bits cX12_bits 3 (some .int) rm_X12_bits (emPI σ) [.int x0] σ (f_X12_bits x0 ) :=
  con_of hO (by decide +kernel) (Nat.le_of_ble_eq_true rfl) rfl (fun X hX _ => c_X12_bits_0 hX hO hΩ   σ x0)
def it_X12_hasHand : List (Nat × Instr × Nat × Nat) := [(0, .aload_n 0, 1, 1), (1, .iload_n 1, 1, 2), (2, .invokevirtual 384, 3, 5), (5, .invokestatic 387, 3, 8), (8, .aload_n 0, 1, 9), (9, .getfield 28, 3, 12), (12, .iload_n 1, 1, 13), (13, .iaload, 1, 14), (14, .if_icmp .ge 7, 3, 17), (17, .iconst 1, 1, 18), (18, .goto 4, 3, 21), (21, .iconst 0, 1, 22), (22, .ireturn, 1, 23)]
theorem id_X12_hasHand : ∀ q ∈ it_X12_hasHand, decode cX12_hasHand q.1 = .ok (q.2.1, q.2.2.1) ∧ q.1 + q.2.2.1 = q.2.2.2 := by decide +kernel
theorem dc_X12_hasHand {pc : Nat} {i : Instr} {n pc' : Nat} (j : Nat) (h : it_X12_hasHand[j]? = some (pc, i, n, pc')) : Dc cX12_hasHand pc i n pc' := dc_of id_X12_hasHand j h
abbrev rm_X12_hasHand : Room := { frames := 1, cells := 0, slots := 0, locals := 23 }
def b_X12_hasHand_22    (s0 : Int32) (σ : MS) : Option (Int32) := chk (s0 = 0 ∨ s0 = 1) (some s0)
set_option maxHeartbeats 4000000 in
set_option maxRecDepth 20000 in
theorem c_X12_hasHand_22 {X : CX} {Ω : OM} (hX : CF X Ω RX12 cX12_hasHand 2 (some .boolean) rm_X12_hasHand) (hO : OKO Ω) (hΩ : oSH Ω = SHM)   (σ : MS)   (s0 : Int32)   : GE X Ω 2 0 0 (emPI σ) 0 0 22 [] [.int s0] σ (b_X12_hasHand_22  s0 σ) := by
  unfold b_X12_hasHand_22
  refine g_chk (fun hc6 => ?_)
  exact g_iret hX (dc_X12_hasHand 12 rfl) (nz_bool hc6).1 rfl (Nat.le_refl _) (Nat.le_refl _)
def b_X12_hasHand_0   (x1 : Int32)  (σ : MS) : Option (Int32) := (f_X12_heldBy x1 σ).bind (fun r7 => (f_X12_bits r7).bind (fun r8 => chk (inb x1 4) ((if (sI σ 7 (ix x1)) ≤ r8 then (b_X12_hasHand_22 ((0 : Int32)) σ) else (b_X12_hasHand_22 ((1 : Int32)) σ)))))
set_option maxHeartbeats 4000000 in
set_option maxRecDepth 20000 in
theorem c_X12_hasHand_0 {X : CX} {Ω : OM} (hX : CF X Ω RX12 cX12_hasHand 2 (some .boolean) rm_X12_hasHand) (hO : OKO Ω) (hΩ : oSH Ω = SHM)   (σ : MS)  (x1 : Int32)    : GE X Ω 2 0 0 (emPI σ) 0 0 0 [(0, .ref 0), (1, .int x1)] [] σ (b_X12_hasHand_0  x1 σ) := by
  unfold b_X12_hasHand_0
  refine g_aload_n hX (dc_X12_hasHand 0 rfl) rfl 0 rfl ?_
  refine g_iload_n hX (dc_X12_hasHand 1 rfl) rfl 1 rfl ?_
  refine gV_PI (As := [.int x1]) (st := []) hX (dc_X12_hasHand 2 rfl) ml_X12_384 (con_X12_heldBy hO hΩ x1 σ) (stS hΩ 0 rfl) rfl rfl ⟨by decide, by decide⟩ ⟨rfl, rfl⟩ ⟨Nat.zero_le _, Nat.zero_le _⟩ (Nat.le_of_ble_eq_true rfl) (fun r7 _ => ?_)
  refine gS_PI (As := [.int r7]) (st := []) hX (dc_X12_hasHand 3 rfl) ml_X12_387 (con_X12_bits hO hΩ r7 σ) rfl rfl ⟨by decide, by decide⟩ ⟨rfl, rfl⟩ ⟨Nat.zero_le _, Nat.zero_le _⟩ (Nat.le_of_ble_eq_true rfl) (fun r8 _ => ?_)
  refine g_aload_n hX (dc_X12_hasHand 4 rfl) rfl 0 rfl ?_
  refine g_getF (q := 7) hX (dc_X12_hasHand 5 rfl) fl_X12_28 (by decide) rfl (stS hΩ 0 rfl) rfl ?_
  refine g_iload_n hX (dc_X12_hasHand 6 rfl) rfl 1 rfl ?_
  refine g_chk (fun hc9 => ?_)
  refine g_iald hX (dc_X12_hasHand 7 rfl) (stS hΩ 7 rfl) hc9 rfl ?_
  refine g_icmp_ge (tgt := 21) hX (dc_X12_hasHand 8 rfl) (by decide) (fun h10 => ?_) (fun h10 => ?_)
  · refine g_iconst (w := (0 : Int32)) hX (dc_X12_hasHand 11 rfl) (by decide) ?_
    exact g_sub [] rfl (c_X12_hasHand_22 hX hO hΩ σ ((0 : Int32)))
  · refine g_iconst (w := (1 : Int32)) hX (dc_X12_hasHand 9 rfl) (by decide) ?_
    refine g_goto (tgt := 22) hX (dc_X12_hasHand 10 rfl) (by decide) ?_
    exact g_sub [] rfl (c_X12_hasHand_22 hX hO hΩ σ ((1 : Int32)))
def f_X12_hasHand (x1 : Int32) (σ : MS) : Option (Int32) := b_X12_hasHand_0  x1 σ
theorem con_X12_hasHand {Ω : OM} (hO : OKO Ω) (hΩ : oSH Ω = SHM) (x1 : Int32) (σ : MS)  : Con Ω yX12_hasHand cX12_hasHand 2 (some .boolean) rm_X12_hasHand (emPI σ) [.ref 0, .int x1] σ (f_X12_hasHand x1 σ) :=
  con_of hO (by decide +kernel) (Nat.le_of_ble_eq_true rfl) rfl (fun X hX _ => c_X12_hasHand_0 hX hO hΩ   σ x1)
def it_X12_going : List (Nat × Instr × Nat × Nat) := [(0, .iconst 0, 1, 1), (1, .istore_n 1, 1, 2), (2, .iconst 0, 1, 3), (3, .istore_n 2, 1, 4), (4, .iload_n 2, 1, 5), (5, .aload_n 0, 1, 6), (6, .getfield 9, 3, 9), (9, .iconst 4, 1, 10), (10, .iaload, 1, 11), (11, .if_icmp .ge 29, 3, 14), (14, .iload_n 1, 1, 15), (15, .aload_n 0, 1, 16), (16, .getfield 34, 3, 19), (19, .iload_n 2, 1, 20), (20, .iaload, 1, 21), (21, .iconst (-1), 1, 22), (22, .if_icmp .eq 9, 3, 25), (25, .iconst 1, 1, 26), (26, .iload_n 2, 1, 27), (27, .ishl, 1, 28), (28, .goto 4, 3, 31), (31, .iconst 0, 1, 32), (32, .ior, 1, 33), (33, .istore_n 1, 1, 34), (34, .iinc 2 1, 3, 37), (37, .goto (-33), 3, 40), (40, .iload_n 1, 1, 41), (41, .ireturn, 1, 42)]
theorem id_X12_going : ∀ q ∈ it_X12_going, decode cX12_going q.1 = .ok (q.2.1, q.2.2.1) ∧ q.1 + q.2.2.1 = q.2.2.2 := by decide +kernel
theorem dc_X12_going {pc : Nat} {i : Instr} {n pc' : Nat} (j : Nat) (h : it_X12_going[j]? = some (pc, i, n, pc')) : Dc cX12_going pc i n pc' := dc_of id_X12_going j h
abbrev rm_X12_going : Room := { frames := 0, cells := 0, slots := 0, locals := 0 }
def b_X12_going_32  (k4 : Int32 → Int32 → MS → Option (Int32))  (y2 : Int32) (s0 : Int32) (s1 : Int32) (σ : MS) : Option (Int32) := (k4 ((s1 ||| s0)) ((y2 + (1 : Int32))) σ)
set_option maxHeartbeats 4000000 in
set_option maxRecDepth 20000 in
theorem c_X12_going_32 {X : CX} {Ω : OM} (hX : CF X Ω RX12 cX12_going 3 (some .int) rm_X12_going) (hO : OKO Ω) (hΩ : oSH Ω = SHM)   (σ : MS) (k4 : Int32 → Int32 → MS → Option (Int32)) (hk4 : ∀ (y1 : Int32) (y2 : Int32), GE X Ω 3 0 0 (emPI σ) 0 0 4 [(0, .ref 0), (1, .int y1), (2, .int y2)] [] σ (k4 y1 y2 σ))  (y2 : Int32) (s0 : Int32) (s1 : Int32)   : GE X Ω 3 0 0 (emPI σ) 0 0 32 [(0, .ref 0), (2, .int y2)] [.int s0, .int s1] σ (b_X12_going_32  k4 y2 s0 s1 σ) := by
  unfold b_X12_going_32
  refine g_ior hX (dc_X12_going 22 rfl) ?_
  refine g_istore_n (L' := [(1, .int (s1 ||| s0)), (0, .ref 0), (2, .int y2)]) hX (dc_X12_going 23 rfl) rfl (by decide) rfl ?_
  refine g_iinc (w := (y2 + (1 : Int32))) (L' := [(2, .int (y2 + (1 : Int32))), (1, .int (s1 ||| s0)), (0, .ref 0)]) hX (dc_X12_going 24 rfl) 2 rfl rfl (by decide) rfl ?_
  refine g_goto (tgt := 4) hX (dc_X12_going 25 rfl) (by decide) ?_
  exact g_sub [2, 1, 0] rfl (hk4 ((s1 ||| s0)) ((y2 + (1 : Int32))) )
def b_X12_going_4   : Nat → Int32 → Int32 → MS → Option (Int32)
  | 0, _, _, _ => none
  | n + 1, y1, y2, σ => (if (sI σ 1 4) ≤ y2 then some y1 else chk (inb y2 6) ((if (sI σ 9 (ix y2)) = (-1 : Int32) then (b_X12_going_32 (b_X12_going_4  n) (y2) ((0 : Int32)) (y1) σ) else (b_X12_going_32 (b_X12_going_4  n) (y2) (((1 : Int32) <<< (y2 &&& 31))) (y1) σ))))
set_option maxHeartbeats 4000000 in
set_option maxRecDepth 20000 in
theorem c_X12_going_4 {X : CX} {Ω : OM} (hX : CF X Ω RX12 cX12_going 3 (some .int) rm_X12_going) (hO : OKO Ω) (hΩ : oSH Ω = SHM)   (σ : MS)  : ∀ (n : Nat) (y1 : Int32) (y2 : Int32)  , GE X Ω 3 0 0 (emPI σ) 0 0 4 [(0, .ref 0), (1, .int y1), (2, .int y2)] [] σ (b_X12_going_4  n y1 y2 σ)
  | 0, _, _ => g_none
  | n + 1, y1, y2 => by
    have hk4 := c_X12_going_4 hX hO hΩ  σ n
    unfold b_X12_going_4
    refine g_iload_n hX (dc_X12_going 4 rfl) rfl 2 rfl ?_
    refine g_aload_n hX (dc_X12_going 5 rfl) rfl 0 rfl ?_
    refine g_getF (q := 1) hX (dc_X12_going 6 rfl) fl_X12_9 (by decide) rfl (stS hΩ 0 rfl) rfl ?_
    refine g_iconst (w := (4 : Int32)) hX (dc_X12_going 7 rfl) (by decide) ?_
    refine g_iald (j := 4) hX (dc_X12_going 8 rfl) (stS hΩ 1 rfl) (by decide) (by decide) ?_
    refine g_icmp_ge (tgt := 40) hX (dc_X12_going 9 rfl) (by decide) (fun h4 => ?_) (fun h4 => ?_)
    · refine g_iload_n hX (dc_X12_going 26 rfl) rfl 1 rfl ?_
      exact g_iret hX (dc_X12_going 27 rfl) rfl rfl (Nat.le_refl _) (Nat.le_refl _)
    · refine g_iload_n hX (dc_X12_going 10 rfl) rfl 1 rfl ?_
      refine g_aload_n hX (dc_X12_going 11 rfl) rfl 0 rfl ?_
      refine g_getF (q := 9) hX (dc_X12_going 12 rfl) fl_X12_34 (by decide) rfl (stS hΩ 0 rfl) rfl ?_
      refine g_iload_n hX (dc_X12_going 13 rfl) rfl 2 rfl ?_
      refine g_chk (fun hc5 => ?_)
      refine g_iald hX (dc_X12_going 14 rfl) (stS hΩ 9 rfl) hc5 rfl ?_
      refine g_iconst (w := (-1 : Int32)) hX (dc_X12_going 15 rfl) (by decide) ?_
      refine g_icmp_eq (tgt := 31) hX (dc_X12_going 16 rfl) (by decide) (fun h6 => ?_) (fun h6 => ?_)
      · refine g_iconst (w := (0 : Int32)) hX (dc_X12_going 21 rfl) (by decide) ?_
        exact g_sub [0, 2] rfl (c_X12_going_32 hX hO hΩ σ _ hk4 (y2) ((0 : Int32)) (y1))
      · refine g_iconst (w := (1 : Int32)) hX (dc_X12_going 17 rfl) (by decide) ?_
        refine g_iload_n hX (dc_X12_going 18 rfl) rfl 2 rfl ?_
        refine g_ishl hX (dc_X12_going 19 rfl) ?_
        refine g_goto (tgt := 32) hX (dc_X12_going 20 rfl) (by decide) ?_
        exact g_sub [0, 2] rfl (c_X12_going_32 hX hO hΩ σ _ hk4 (y2) (((1 : Int32) <<< (y2 &&& 31))) (y1))
def b_X12_going_0     (σ : MS) : Option (Int32) := (b_X12_going_4 FU ((0 : Int32)) ((0 : Int32)) σ)
set_option maxHeartbeats 4000000 in
set_option maxRecDepth 20000 in
theorem c_X12_going_0 {X : CX} {Ω : OM} (hX : CF X Ω RX12 cX12_going 3 (some .int) rm_X12_going) (hO : OKO Ω) (hΩ : oSH Ω = SHM)   (σ : MS)      : GE X Ω 3 0 0 (emPI σ) 0 0 0 [(0, .ref 0)] [] σ (b_X12_going_0  σ) := by
  unfold b_X12_going_0
  refine g_iconst (w := (0 : Int32)) hX (dc_X12_going 0 rfl) (by decide) ?_
  refine g_istore_n (L' := [(1, .int (0 : Int32)), (0, .ref 0)]) hX (dc_X12_going 1 rfl) rfl (by decide) rfl ?_
  refine g_iconst (w := (0 : Int32)) hX (dc_X12_going 2 rfl) (by decide) ?_
  refine g_istore_n (L' := [(2, .int (0 : Int32)), (1, .int (0 : Int32)), (0, .ref 0)]) hX (dc_X12_going 3 rfl) rfl (by decide) rfl ?_
  exact g_sub [2, 1, 0] rfl (c_X12_going_4 hX hO hΩ σ FU ((0 : Int32)) ((0 : Int32)))
def f_X12_going  (σ : MS) : Option (Int32) := b_X12_going_0   σ
theorem con_X12_going {Ω : OM} (hO : OKO Ω) (hΩ : oSH Ω = SHM)  (σ : MS)  : Con Ω yX12_going cX12_going 3 (some .int) rm_X12_going (emPI σ) [.ref 0] σ (f_X12_going  σ) :=
  con_of hO (by decide +kernel) (Nat.le_of_ble_eq_true rfl) rfl (fun X hX _ => c_X12_going_0 hX hO hΩ   σ )
def it_X12_kind : List (Nat × Instr × Nat × Nat) := [(0, .aload_n 0, 1, 1), (1, .iload_n 1, 1, 2), (2, .invokevirtual 390, 3, 5), (5, .ifCond .eq 13, 3, 8), (8, .iload_n 2, 1, 9), (9, .i2l, 1, 10), (10, .lconst 0, 1, 11), (11, .lconst 1, 1, 12), (12, .invokestatic 161, 3, 15), (15, .ifCond .ne 7, 3, 18), (18, .iconst (-1), 1, 19), (19, .goto 22, 3, 22), (22, .iload_n 2, 1, 23), (23, .ifCond .ne 12, 3, 26), (26, .aload_n 0, 1, 27), (27, .getfield 13, 3, 30), (30, .iload_n 1, 1, 31), (31, .iaload, 1, 32), (32, .goto 9, 3, 35), (35, .aload_n 0, 1, 36), (36, .getfield 16, 3, 39), (39, .iload_n 1, 1, 40), (40, .iaload, 1, 41), (41, .ireturn, 1, 42)]
theorem id_X12_kind : ∀ q ∈ it_X12_kind, decode cX12_kind q.1 = .ok (q.2.1, q.2.2.1) ∧ q.1 + q.2.2.1 = q.2.2.2 := by decide +kernel
theorem dc_X12_kind {pc : Nat} {i : Instr} {n pc' : Nat} (j : Nat) (h : it_X12_kind[j]? = some (pc, i, n, pc')) : Dc cX12_kind pc i n pc' := dc_of id_X12_kind j h
abbrev rm_X12_kind : Room := { frames := 2, cells := 0, slots := 0, locals := 46 }
def b_X12_kind_41    (s0 : Int32) (σ : MS) : Option (Int32) := some s0
set_option maxHeartbeats 4000000 in
set_option maxRecDepth 20000 in
theorem c_X12_kind_41 {X : CX} {Ω : OM} (hX : CF X Ω RX12 cX12_kind 3 (some .int) rm_X12_kind) (hO : OKO Ω) (hΩ : oSH Ω = SHM)   (σ : MS)   (s0 : Int32)   : GE X Ω 3 0 0 (emPI σ) 0 0 41 [] [.int s0] σ (b_X12_kind_41  s0 σ) := by
  unfold b_X12_kind_41
  exact g_iret hX (dc_X12_kind 23 rfl) rfl rfl (Nat.le_refl _) (Nat.le_refl _)
def b_X12_kind_18     (σ : MS) : Option (Int32) := (b_X12_kind_41 ((-1 : Int32)) σ)
set_option maxHeartbeats 4000000 in
set_option maxRecDepth 20000 in
theorem c_X12_kind_18 {X : CX} {Ω : OM} (hX : CF X Ω RX12 cX12_kind 3 (some .int) rm_X12_kind) (hO : OKO Ω) (hΩ : oSH Ω = SHM)   (σ : MS)      : GE X Ω 3 0 0 (emPI σ) 0 0 18 [] [] σ (b_X12_kind_18  σ) := by
  unfold b_X12_kind_18
  refine g_iconst (w := (-1 : Int32)) hX (dc_X12_kind 10 rfl) (by decide) ?_
  refine g_goto (tgt := 41) hX (dc_X12_kind 11 rfl) (by decide) ?_
  exact g_sub [] rfl (c_X12_kind_41 hX hO hΩ σ ((-1 : Int32)))
def b_X12_kind_0   (x1 : Int32) (x2 : Int32)  (σ : MS) : Option (Int32) := (f_X12_isKind x1 σ).bind (fun r8 => (if r8 = 0 then (b_X12_kind_18 σ) else (f_X12_in (x2).toInt64 (0 : Int64) (1 : Int64)).bind (fun r10 => (if r10 = 0 then (b_X12_kind_18 σ) else (if x2 = 0 then chk (inb x1 5) ((b_X12_kind_41 ((sI σ 2 (ix x1))) σ)) else chk (inb x1 5) ((b_X12_kind_41 ((sI σ 3 (ix x1))) σ)))))))
set_option maxHeartbeats 4000000 in
set_option maxRecDepth 20000 in
theorem c_X12_kind_0 {X : CX} {Ω : OM} (hX : CF X Ω RX12 cX12_kind 3 (some .int) rm_X12_kind) (hO : OKO Ω) (hΩ : oSH Ω = SHM)   (σ : MS)  (x1 : Int32) (x2 : Int32)    : GE X Ω 3 0 0 (emPI σ) 0 0 0 [(0, .ref 0), (1, .int x1), (2, .int x2)] [] σ (b_X12_kind_0  x1 x2 σ) := by
  unfold b_X12_kind_0
  refine g_aload_n hX (dc_X12_kind 0 rfl) rfl 0 rfl ?_
  refine g_iload_n hX (dc_X12_kind 1 rfl) rfl 1 rfl ?_
  refine gV_PI (As := [.int x1]) (st := []) hX (dc_X12_kind 2 rfl) ml_X12_390 (con_X12_isKind hO hΩ x1 σ) (stS hΩ 0 rfl) rfl rfl ⟨by decide, by decide⟩ ⟨rfl, rfl⟩ ⟨Nat.zero_le _, Nat.zero_le _⟩ (Nat.le_of_ble_eq_true rfl) (fun r8 _ => ?_)
  refine g_if_eq (tgt := 18) hX (dc_X12_kind 3 rfl) (by decide) (fun h9 => ?_) (fun h9 => ?_)
  · exact g_sub [] rfl (c_X12_kind_18 hX hO hΩ σ)
  · refine g_iload_n hX (dc_X12_kind 4 rfl) rfl 2 rfl ?_
    refine g_i2l hX (dc_X12_kind 5 rfl) ?_
    refine g_lconst (w := (0 : Int64)) hX (dc_X12_kind 6 rfl) (by decide) ?_
    refine g_lconst (w := (1 : Int64)) hX (dc_X12_kind 7 rfl) (by decide) ?_
    refine gS_PI (As := [.long (x2).toInt64, .long (0 : Int64), .long (1 : Int64)]) (st := []) hX (dc_X12_kind 8 rfl) ml_X12_161 (con_X12_in hO hΩ (x2).toInt64 (0 : Int64) (1 : Int64) σ) rfl rfl ⟨by decide, by decide⟩ ⟨rfl, rfl⟩ ⟨Nat.zero_le _, Nat.zero_le _⟩ (Nat.le_of_ble_eq_true rfl) (fun r10 _ => ?_)
    refine g_if_ne (tgt := 22) hX (dc_X12_kind 9 rfl) (by decide) (fun h11 => ?_) (fun h11 => ?_)
    · exact g_sub [] rfl (c_X12_kind_18 hX hO hΩ σ)
    · refine g_iload_n hX (dc_X12_kind 12 rfl) rfl 2 rfl ?_
      refine g_if_ne (tgt := 35) hX (dc_X12_kind 13 rfl) (by decide) (fun h12 => ?_) (fun h12 => ?_)
      · refine g_aload_n hX (dc_X12_kind 14 rfl) rfl 0 rfl ?_
        refine g_getF (q := 2) hX (dc_X12_kind 15 rfl) fl_X12_13 (by decide) rfl (stS hΩ 0 rfl) rfl ?_
        refine g_iload_n hX (dc_X12_kind 16 rfl) rfl 1 rfl ?_
        refine g_chk (fun hc13 => ?_)
        refine g_iald hX (dc_X12_kind 17 rfl) (stS hΩ 2 rfl) hc13 rfl ?_
        refine g_goto (tgt := 41) hX (dc_X12_kind 18 rfl) (by decide) ?_
        exact g_sub [] rfl (c_X12_kind_41 hX hO hΩ σ ((sI σ 2 (ix x1))))
      · refine g_aload_n hX (dc_X12_kind 19 rfl) rfl 0 rfl ?_
        refine g_getF (q := 3) hX (dc_X12_kind 20 rfl) fl_X12_16 (by decide) rfl (stS hΩ 0 rfl) rfl ?_
        refine g_iload_n hX (dc_X12_kind 21 rfl) rfl 1 rfl ?_
        refine g_chk (fun hc14 => ?_)
        refine g_iald hX (dc_X12_kind 22 rfl) (stS hΩ 3 rfl) hc14 rfl ?_
        exact g_sub [] rfl (c_X12_kind_41 hX hO hΩ σ ((sI σ 3 (ix x1))))
def f_X12_kind (x1 : Int32) (x2 : Int32) (σ : MS) : Option (Int32) := b_X12_kind_0  x1 x2 σ
theorem con_X12_kind {Ω : OM} (hO : OKO Ω) (hΩ : oSH Ω = SHM) (x1 : Int32) (x2 : Int32) (σ : MS)  : Con Ω yX12_kind cX12_kind 3 (some .int) rm_X12_kind (emPI σ) [.ref 0, .int x1, .int x2] σ (f_X12_kind x1 x2 σ) :=
  con_of hO (by decide +kernel) (Nat.le_of_ble_eq_true rfl) rfl (fun X hX _ => c_X12_kind_0 hX hO hΩ   σ x1 x2)
def it_X12_person : List (Nat × Instr × Nat × Nat) := [(0, .aload_n 0, 1, 1), (1, .iload_n 1, 1, 2), (2, .invokevirtual 393, 3, 5), (5, .ifCond .ne 5, 3, 8), (8, .iconst (-1), 1, 9), (9, .ireturn, 1, 10), (10, .iload_n 2, 1, 11), (11, .tableswitch 91 0 5 #[37, 44, 51, 58, 65, 71], 37, 48), (48, .aload_n 0, 1, 49), (49, .getfield 19, 3, 52), (52, .iload_n 1, 1, 53), (53, .iaload, 1, 54), (54, .ireturn, 1, 55), (55, .aload_n 0, 1, 56), (56, .getfield 22, 3, 59), (59, .iload_n 1, 1, 60), (60, .iaload, 1, 61), (61, .ireturn, 1, 62), (62, .aload_n 0, 1, 63), (63, .getfield 25, 3, 66), (66, .iload_n 1, 1, 67), (67, .iaload, 1, 68), (68, .ireturn, 1, 69), (69, .aload_n 0, 1, 70), (70, .getfield 28, 3, 73), (73, .iload_n 1, 1, 74), (74, .iaload, 1, 75), (75, .ireturn, 1, 76), (76, .aload_n 0, 1, 77), (77, .iload_n 1, 1, 78), (78, .invokevirtual 384, 3, 81), (81, .ireturn, 1, 82), (82, .aload_n 0, 1, 83), (83, .iload_n 1, 1, 84), (84, .aload_n 0, 1, 85), (85, .getfield 9, 3, 88), (88, .iconst 5, 1, 89), (89, .iaload, 1, 90), (90, .invokevirtual 381, 3, 93), (93, .ifCond .eq 7, 3, 96), (96, .iconst 0, 1, 97), (97, .goto 4, 3, 100), (100, .iconst 1, 1, 101), (101, .ireturn, 1, 102), (102, .iconst (-1), 1, 103), (103, .ireturn, 1, 104)]
theorem id_X12_person : ∀ q ∈ it_X12_person, decode cX12_person q.1 = .ok (q.2.1, q.2.2.1) ∧ q.1 + q.2.2.1 = q.2.2.2 := by decide +kernel
theorem dc_X12_person {pc : Nat} {i : Instr} {n pc' : Nat} (j : Nat) (h : it_X12_person[j]? = some (pc, i, n, pc')) : Dc cX12_person pc i n pc' := dc_of id_X12_person j h
abbrev rm_X12_person : Room := { frames := 2, cells := 0, slots := 0, locals := 46 }
def b_X12_person_101    (s0 : Int32) (σ : MS) : Option (Int32) := some s0
set_option maxHeartbeats 4000000 in
set_option maxRecDepth 20000 in
theorem c_X12_person_101 {X : CX} {Ω : OM} (hX : CF X Ω RX12 cX12_person 3 (some .int) rm_X12_person) (hO : OKO Ω) (hΩ : oSH Ω = SHM)   (σ : MS)   (s0 : Int32)   : GE X Ω 3 0 0 (emPI σ) 0 0 101 [] [.int s0] σ (b_X12_person_101  s0 σ) := by
  unfold b_X12_person_101
  exact g_iret hX (dc_X12_person 43 rfl) rfl rfl (Nat.le_refl _) (Nat.le_refl _)
def b_X12_person_0   (x1 : Int32) (x2 : Int32)  (σ : MS) : Option (Int32) := (f_X12_isPerson x1 σ).bind (fun r16 => (if r16 = 0 then some (-1 : Int32) else (if x2 = (0 : Int32) then chk (inb x1 4) (some (sI σ 4 (ix x1))) else (if x2 = (1 : Int32) then chk (inb x1 4) (some (sI σ 5 (ix x1))) else (if x2 = (2 : Int32) then chk (inb x1 4) (some (sI σ 6 (ix x1))) else (if x2 = (3 : Int32) then chk (inb x1 4) (some (sI σ 7 (ix x1))) else (if x2 = (4 : Int32) then (f_X12_heldBy x1 σ).bind (fun r28 => some r28) else (if x2 = (5 : Int32) then (f_X12_isAsleep x1 (sI σ 1 5) σ).bind (fun r29 => (if r29 = 0 then (b_X12_person_101 ((1 : Int32)) σ) else (b_X12_person_101 ((0 : Int32)) σ))) else some (-1 : Int32)))))))))
set_option maxHeartbeats 4000000 in
set_option maxRecDepth 20000 in
theorem c_X12_person_0 {X : CX} {Ω : OM} (hX : CF X Ω RX12 cX12_person 3 (some .int) rm_X12_person) (hO : OKO Ω) (hΩ : oSH Ω = SHM)   (σ : MS)  (x1 : Int32) (x2 : Int32)    : GE X Ω 3 0 0 (emPI σ) 0 0 0 [(0, .ref 0), (1, .int x1), (2, .int x2)] [] σ (b_X12_person_0  x1 x2 σ) := by
  unfold b_X12_person_0
  refine g_aload_n hX (dc_X12_person 0 rfl) rfl 0 rfl ?_
  refine g_iload_n hX (dc_X12_person 1 rfl) rfl 1 rfl ?_
  refine gV_PI (As := [.int x1]) (st := []) hX (dc_X12_person 2 rfl) ml_X12_393 (con_X12_isPerson hO hΩ x1 σ) (stS hΩ 0 rfl) rfl rfl ⟨by decide, by decide⟩ ⟨rfl, rfl⟩ ⟨Nat.zero_le _, Nat.zero_le _⟩ (Nat.le_of_ble_eq_true rfl) (fun r16 _ => ?_)
  refine g_if_ne (tgt := 10) hX (dc_X12_person 3 rfl) (by decide) (fun h17 => ?_) (fun h17 => ?_)
  · refine g_iconst (w := (-1 : Int32)) hX (dc_X12_person 4 rfl) (by decide) ?_
    exact g_iret hX (dc_X12_person 5 rfl) rfl rfl (Nat.le_refl _) (Nat.le_refl _)
  · refine g_iload_n hX (dc_X12_person 6 rfl) rfl 2 rfl ?_
    refine g_ite (fun h18 => ?_) (fun h18 => ?_)
    · refine g_tsIn (off := 37) (tgt := 48) hX (dc_X12_person 7 rfl) (by rw [h18]; decide) (by rw [h18]; decide) (by rw [h18]; rfl) (by decide) ?_
      refine g_aload_n hX (dc_X12_person 8 rfl) rfl 0 rfl ?_
      refine g_getF (q := 4) hX (dc_X12_person 9 rfl) fl_X12_19 (by decide) rfl (stS hΩ 0 rfl) rfl ?_
      refine g_iload_n hX (dc_X12_person 10 rfl) rfl 1 rfl ?_
      refine g_chk (fun hc24 => ?_)
      refine g_iald hX (dc_X12_person 11 rfl) (stS hΩ 4 rfl) hc24 rfl ?_
      exact g_iret hX (dc_X12_person 12 rfl) rfl rfl (Nat.le_refl _) (Nat.le_refl _)
    · refine g_ite (fun h19 => ?_) (fun h19 => ?_)
      · refine g_tsIn (off := 44) (tgt := 55) hX (dc_X12_person 7 rfl) (by rw [h19]; decide) (by rw [h19]; decide) (by rw [h19]; rfl) (by decide) ?_
        refine g_aload_n hX (dc_X12_person 13 rfl) rfl 0 rfl ?_
        refine g_getF (q := 5) hX (dc_X12_person 14 rfl) fl_X12_22 (by decide) rfl (stS hΩ 0 rfl) rfl ?_
        refine g_iload_n hX (dc_X12_person 15 rfl) rfl 1 rfl ?_
        refine g_chk (fun hc25 => ?_)
        refine g_iald hX (dc_X12_person 16 rfl) (stS hΩ 5 rfl) hc25 rfl ?_
        exact g_iret hX (dc_X12_person 17 rfl) rfl rfl (Nat.le_refl _) (Nat.le_refl _)
      · refine g_ite (fun h20 => ?_) (fun h20 => ?_)
        · refine g_tsIn (off := 51) (tgt := 62) hX (dc_X12_person 7 rfl) (by rw [h20]; decide) (by rw [h20]; decide) (by rw [h20]; rfl) (by decide) ?_
          refine g_aload_n hX (dc_X12_person 18 rfl) rfl 0 rfl ?_
          refine g_getF (q := 6) hX (dc_X12_person 19 rfl) fl_X12_25 (by decide) rfl (stS hΩ 0 rfl) rfl ?_
          refine g_iload_n hX (dc_X12_person 20 rfl) rfl 1 rfl ?_
          refine g_chk (fun hc26 => ?_)
          refine g_iald hX (dc_X12_person 21 rfl) (stS hΩ 6 rfl) hc26 rfl ?_
          exact g_iret hX (dc_X12_person 22 rfl) rfl rfl (Nat.le_refl _) (Nat.le_refl _)
        · refine g_ite (fun h21 => ?_) (fun h21 => ?_)
          · refine g_tsIn (off := 58) (tgt := 69) hX (dc_X12_person 7 rfl) (by rw [h21]; decide) (by rw [h21]; decide) (by rw [h21]; rfl) (by decide) ?_
            refine g_aload_n hX (dc_X12_person 23 rfl) rfl 0 rfl ?_
            refine g_getF (q := 7) hX (dc_X12_person 24 rfl) fl_X12_28 (by decide) rfl (stS hΩ 0 rfl) rfl ?_
            refine g_iload_n hX (dc_X12_person 25 rfl) rfl 1 rfl ?_
            refine g_chk (fun hc27 => ?_)
            refine g_iald hX (dc_X12_person 26 rfl) (stS hΩ 7 rfl) hc27 rfl ?_
            exact g_iret hX (dc_X12_person 27 rfl) rfl rfl (Nat.le_refl _) (Nat.le_refl _)
          · refine g_ite (fun h22 => ?_) (fun h22 => ?_)
            · refine g_tsIn (off := 65) (tgt := 76) hX (dc_X12_person 7 rfl) (by rw [h22]; decide) (by rw [h22]; decide) (by rw [h22]; rfl) (by decide) ?_
              refine g_aload_n hX (dc_X12_person 28 rfl) rfl 0 rfl ?_
              refine g_iload_n hX (dc_X12_person 29 rfl) rfl 1 rfl ?_
              refine gV_PI (As := [.int x1]) (st := []) hX (dc_X12_person 30 rfl) ml_X12_384 (con_X12_heldBy hO hΩ x1 σ) (stS hΩ 0 rfl) rfl rfl ⟨by decide, by decide⟩ ⟨rfl, rfl⟩ ⟨Nat.zero_le _, Nat.zero_le _⟩ (Nat.le_of_ble_eq_true rfl) (fun r28 _ => ?_)
              exact g_iret hX (dc_X12_person 31 rfl) rfl rfl (Nat.le_refl _) (Nat.le_refl _)
            · refine g_ite (fun h23 => ?_) (fun h23 => ?_)
              · refine g_tsIn (off := 71) (tgt := 82) hX (dc_X12_person 7 rfl) (by rw [h23]; decide) (by rw [h23]; decide) (by rw [h23]; rfl) (by decide) ?_
                refine g_aload_n hX (dc_X12_person 32 rfl) rfl 0 rfl ?_
                refine g_iload_n hX (dc_X12_person 33 rfl) rfl 1 rfl ?_
                refine g_aload_n hX (dc_X12_person 34 rfl) rfl 0 rfl ?_
                refine g_getF (q := 1) hX (dc_X12_person 35 rfl) fl_X12_9 (by decide) rfl (stS hΩ 0 rfl) rfl ?_
                refine g_iconst (w := (5 : Int32)) hX (dc_X12_person 36 rfl) (by decide) ?_
                refine g_iald (j := 5) hX (dc_X12_person 37 rfl) (stS hΩ 1 rfl) (by decide) (by decide) ?_
                refine gV_PI (As := [.int x1, .int (sI σ 1 5)]) (st := []) hX (dc_X12_person 38 rfl) ml_X12_381 (con_X12_isAsleep hO hΩ x1 (sI σ 1 5) σ) (stS hΩ 0 rfl) rfl rfl ⟨by decide, by decide⟩ ⟨rfl, rfl⟩ ⟨Nat.zero_le _, Nat.zero_le _⟩ (Nat.le_of_ble_eq_true rfl) (fun r29 _ => ?_)
                refine g_if_eq (tgt := 100) hX (dc_X12_person 39 rfl) (by decide) (fun h30 => ?_) (fun h30 => ?_)
                · refine g_iconst (w := (1 : Int32)) hX (dc_X12_person 42 rfl) (by decide) ?_
                  exact g_sub [] rfl (c_X12_person_101 hX hO hΩ σ ((1 : Int32)))
                · refine g_iconst (w := (0 : Int32)) hX (dc_X12_person 40 rfl) (by decide) ?_
                  refine g_goto (tgt := 101) hX (dc_X12_person 41 rfl) (by decide) ?_
                  exact g_sub [] rfl (c_X12_person_101 hX hO hΩ σ ((0 : Int32)))
              · refine g_tsOut (tgt := 102) hX (dc_X12_person 7 rfl) (by have e0 := i32ne h18 (k := 0) (by decide); have e1 := i32ne h19 (k := 1) (by decide); have e2 := i32ne h20 (k := 2) (by decide); have e3 := i32ne h21 (k := 3) (by decide); have e4 := i32ne h22 (k := 4) (by decide); have e5 := i32ne h23 (k := 5) (by decide); omega) (by decide) ?_
                refine g_iconst (w := (-1 : Int32)) hX (dc_X12_person 44 rfl) (by decide) ?_
                exact g_iret hX (dc_X12_person 45 rfl) rfl rfl (Nat.le_refl _) (Nat.le_refl _)
def f_X12_person (x1 : Int32) (x2 : Int32) (σ : MS) : Option (Int32) := b_X12_person_0  x1 x2 σ
theorem con_X12_person {Ω : OM} (hO : OKO Ω) (hΩ : oSH Ω = SHM) (x1 : Int32) (x2 : Int32) (σ : MS)  : Con Ω yX12_person cX12_person 3 (some .int) rm_X12_person (emPI σ) [.ref 0, .int x1, .int x2] σ (f_X12_person x1 x2 σ) :=
  con_of hO (by decide +kernel) (Nat.le_of_ble_eq_true rfl) rfl (fun X hX _ => c_X12_person_0 hX hO hΩ   σ x1 x2)
def it_X12_work : List (Nat × Instr × Nat × Nat) := [(0, .aload_n 0, 1, 1), (1, .iload_n 1, 1, 2), (2, .invokevirtual 165, 3, 5), (5, .ifCond .ne 6, 3, 8), (8, .bipush (-2), 2, 10), (10, .ireturn, 1, 11), (11, .iload_n 2, 1, 12), (12, .tableswitch 84 0 4 #[36, 43, 50, 70, 77], 36, 48), (48, .aload_n 0, 1, 49), (49, .getfield 31, 3, 52), (52, .iload_n 1, 1, 53), (53, .iaload, 1, 54), (54, .ireturn, 1, 55), (55, .aload_n 0, 1, 56), (56, .getfield 34, 3, 59), (59, .iload_n 1, 1, 60), (60, .iaload, 1, 61), (61, .ireturn, 1, 62), (62, .aload_n 0, 1, 63), (63, .getfield 9, 3, 66), (66, .bipush 6, 2, 68), (68, .iaload, 1, 69), (69, .iload_n 1, 1, 70), (70, .invokestatic 396, 3, 73), (73, .ifCond .eq 7, 3, 76), (76, .iconst 1, 1, 77), (77, .goto 4, 3, 80), (80, .iconst 0, 1, 81), (81, .ireturn, 1, 82), (82, .aload_n 0, 1, 83), (83, .getfield 37, 3, 86), (86, .iload_n 1, 1, 87), (87, .iaload, 1, 88), (88, .ireturn, 1, 89), (89, .aload_n 0, 1, 90), (90, .getfield 40, 3, 93), (93, .iload_n 1, 1, 94), (94, .iaload, 1, 95), (95, .ireturn, 1, 96), (96, .bipush (-2), 2, 98), (98, .ireturn, 1, 99)]
theorem id_X12_work : ∀ q ∈ it_X12_work, decode cX12_work q.1 = .ok (q.2.1, q.2.2.1) ∧ q.1 + q.2.2.1 = q.2.2.2 := by decide +kernel
theorem dc_X12_work {pc : Nat} {i : Instr} {n pc' : Nat} (j : Nat) (h : it_X12_work[j]? = some (pc, i, n, pc')) : Dc cX12_work pc i n pc' := dc_of id_X12_work j h
abbrev rm_X12_work : Room := { frames := 2, cells := 0, slots := 0, locals := 46 }
def b_X12_work_81    (s0 : Int32) (σ : MS) : Option (Int32) := some s0
set_option maxHeartbeats 4000000 in
set_option maxRecDepth 20000 in
theorem c_X12_work_81 {X : CX} {Ω : OM} (hX : CF X Ω RX12 cX12_work 3 (some .int) rm_X12_work) (hO : OKO Ω) (hΩ : oSH Ω = SHM)   (σ : MS)   (s0 : Int32)   : GE X Ω 3 0 0 (emPI σ) 0 0 81 [] [.int s0] σ (b_X12_work_81  s0 σ) := by
  unfold b_X12_work_81
  exact g_iret hX (dc_X12_work 28 rfl) rfl rfl (Nat.le_refl _) (Nat.le_refl _)
def b_X12_work_0   (x1 : Int32) (x2 : Int32)  (σ : MS) : Option (Int32) := (f_X12_isWork x1 σ).bind (fun r14 => (if r14 = 0 then some (-2 : Int32) else (if x2 = (0 : Int32) then chk (inb x1 6) (some (sI σ 8 (ix x1))) else (if x2 = (1 : Int32) then chk (inb x1 6) (some (sI σ 9 (ix x1))) else (if x2 = (2 : Int32) then (f_X12_has (sI σ 1 6) x1).bind (fun r23 => (if r23 = 0 then (b_X12_work_81 ((0 : Int32)) σ) else (b_X12_work_81 ((1 : Int32)) σ))) else (if x2 = (3 : Int32) then chk (inb x1 6) (some (sI σ 10 (ix x1))) else (if x2 = (4 : Int32) then chk (inb x1 6) (some (sI σ 11 (ix x1))) else some (-2 : Int32))))))))
set_option maxHeartbeats 4000000 in
set_option maxRecDepth 20000 in
theorem c_X12_work_0 {X : CX} {Ω : OM} (hX : CF X Ω RX12 cX12_work 3 (some .int) rm_X12_work) (hO : OKO Ω) (hΩ : oSH Ω = SHM)   (σ : MS)  (x1 : Int32) (x2 : Int32)    : GE X Ω 3 0 0 (emPI σ) 0 0 0 [(0, .ref 0), (1, .int x1), (2, .int x2)] [] σ (b_X12_work_0  x1 x2 σ) := by
  unfold b_X12_work_0
  refine g_aload_n hX (dc_X12_work 0 rfl) rfl 0 rfl ?_
  refine g_iload_n hX (dc_X12_work 1 rfl) rfl 1 rfl ?_
  refine gV_PI (As := [.int x1]) (st := []) hX (dc_X12_work 2 rfl) ml_X12_165 (con_X12_isWork hO hΩ x1 σ) (stS hΩ 0 rfl) rfl rfl ⟨by decide, by decide⟩ ⟨rfl, rfl⟩ ⟨Nat.zero_le _, Nat.zero_le _⟩ (Nat.le_of_ble_eq_true rfl) (fun r14 _ => ?_)
  refine g_if_ne (tgt := 11) hX (dc_X12_work 3 rfl) (by decide) (fun h15 => ?_) (fun h15 => ?_)
  · refine g_bipush (w := (-2 : Int32)) hX (dc_X12_work 4 rfl) (by decide) ?_
    exact g_iret hX (dc_X12_work 5 rfl) rfl rfl (Nat.le_refl _) (Nat.le_refl _)
  · refine g_iload_n hX (dc_X12_work 6 rfl) rfl 2 rfl ?_
    refine g_ite (fun h16 => ?_) (fun h16 => ?_)
    · refine g_tsIn (off := 36) (tgt := 48) hX (dc_X12_work 7 rfl) (by rw [h16]; decide) (by rw [h16]; decide) (by rw [h16]; rfl) (by decide) ?_
      refine g_aload_n hX (dc_X12_work 8 rfl) rfl 0 rfl ?_
      refine g_getF (q := 8) hX (dc_X12_work 9 rfl) fl_X12_31 (by decide) rfl (stS hΩ 0 rfl) rfl ?_
      refine g_iload_n hX (dc_X12_work 10 rfl) rfl 1 rfl ?_
      refine g_chk (fun hc21 => ?_)
      refine g_iald hX (dc_X12_work 11 rfl) (stS hΩ 8 rfl) hc21 rfl ?_
      exact g_iret hX (dc_X12_work 12 rfl) rfl rfl (Nat.le_refl _) (Nat.le_refl _)
    · refine g_ite (fun h17 => ?_) (fun h17 => ?_)
      · refine g_tsIn (off := 43) (tgt := 55) hX (dc_X12_work 7 rfl) (by rw [h17]; decide) (by rw [h17]; decide) (by rw [h17]; rfl) (by decide) ?_
        refine g_aload_n hX (dc_X12_work 13 rfl) rfl 0 rfl ?_
        refine g_getF (q := 9) hX (dc_X12_work 14 rfl) fl_X12_34 (by decide) rfl (stS hΩ 0 rfl) rfl ?_
        refine g_iload_n hX (dc_X12_work 15 rfl) rfl 1 rfl ?_
        refine g_chk (fun hc22 => ?_)
        refine g_iald hX (dc_X12_work 16 rfl) (stS hΩ 9 rfl) hc22 rfl ?_
        exact g_iret hX (dc_X12_work 17 rfl) rfl rfl (Nat.le_refl _) (Nat.le_refl _)
      · refine g_ite (fun h18 => ?_) (fun h18 => ?_)
        · refine g_tsIn (off := 50) (tgt := 62) hX (dc_X12_work 7 rfl) (by rw [h18]; decide) (by rw [h18]; decide) (by rw [h18]; rfl) (by decide) ?_
          refine g_aload_n hX (dc_X12_work 18 rfl) rfl 0 rfl ?_
          refine g_getF (q := 1) hX (dc_X12_work 19 rfl) fl_X12_9 (by decide) rfl (stS hΩ 0 rfl) rfl ?_
          refine g_bipush (w := (6 : Int32)) hX (dc_X12_work 20 rfl) (by decide) ?_
          refine g_iald (j := 6) hX (dc_X12_work 21 rfl) (stS hΩ 1 rfl) (by decide) (by decide) ?_
          refine g_iload_n hX (dc_X12_work 22 rfl) rfl 1 rfl ?_
          refine gS_PI (As := [.int (sI σ 1 6), .int x1]) (st := []) hX (dc_X12_work 23 rfl) ml_X12_396 (con_X12_has hO hΩ (sI σ 1 6) x1 σ) rfl rfl ⟨by decide, by decide⟩ ⟨rfl, rfl⟩ ⟨Nat.zero_le _, Nat.zero_le _⟩ (Nat.le_of_ble_eq_true rfl) (fun r23 _ => ?_)
          refine g_if_eq (tgt := 80) hX (dc_X12_work 24 rfl) (by decide) (fun h24 => ?_) (fun h24 => ?_)
          · refine g_iconst (w := (0 : Int32)) hX (dc_X12_work 27 rfl) (by decide) ?_
            exact g_sub [] rfl (c_X12_work_81 hX hO hΩ σ ((0 : Int32)))
          · refine g_iconst (w := (1 : Int32)) hX (dc_X12_work 25 rfl) (by decide) ?_
            refine g_goto (tgt := 81) hX (dc_X12_work 26 rfl) (by decide) ?_
            exact g_sub [] rfl (c_X12_work_81 hX hO hΩ σ ((1 : Int32)))
        · refine g_ite (fun h19 => ?_) (fun h19 => ?_)
          · refine g_tsIn (off := 70) (tgt := 82) hX (dc_X12_work 7 rfl) (by rw [h19]; decide) (by rw [h19]; decide) (by rw [h19]; rfl) (by decide) ?_
            refine g_aload_n hX (dc_X12_work 29 rfl) rfl 0 rfl ?_
            refine g_getF (q := 10) hX (dc_X12_work 30 rfl) fl_X12_37 (by decide) rfl (stS hΩ 0 rfl) rfl ?_
            refine g_iload_n hX (dc_X12_work 31 rfl) rfl 1 rfl ?_
            refine g_chk (fun hc25 => ?_)
            refine g_iald hX (dc_X12_work 32 rfl) (stS hΩ 10 rfl) hc25 rfl ?_
            exact g_iret hX (dc_X12_work 33 rfl) rfl rfl (Nat.le_refl _) (Nat.le_refl _)
          · refine g_ite (fun h20 => ?_) (fun h20 => ?_)
            · refine g_tsIn (off := 77) (tgt := 89) hX (dc_X12_work 7 rfl) (by rw [h20]; decide) (by rw [h20]; decide) (by rw [h20]; rfl) (by decide) ?_
              refine g_aload_n hX (dc_X12_work 34 rfl) rfl 0 rfl ?_
              refine g_getF (q := 11) hX (dc_X12_work 35 rfl) fl_X12_40 (by decide) rfl (stS hΩ 0 rfl) rfl ?_
              refine g_iload_n hX (dc_X12_work 36 rfl) rfl 1 rfl ?_
              refine g_chk (fun hc26 => ?_)
              refine g_iald hX (dc_X12_work 37 rfl) (stS hΩ 11 rfl) hc26 rfl ?_
              exact g_iret hX (dc_X12_work 38 rfl) rfl rfl (Nat.le_refl _) (Nat.le_refl _)
            · refine g_tsOut (tgt := 96) hX (dc_X12_work 7 rfl) (by have e0 := i32ne h16 (k := 0) (by decide); have e1 := i32ne h17 (k := 1) (by decide); have e2 := i32ne h18 (k := 2) (by decide); have e3 := i32ne h19 (k := 3) (by decide); have e4 := i32ne h20 (k := 4) (by decide); omega) (by decide) ?_
              refine g_bipush (w := (-2 : Int32)) hX (dc_X12_work 39 rfl) (by decide) ?_
              exact g_iret hX (dc_X12_work 40 rfl) rfl rfl (Nat.le_refl _) (Nat.le_refl _)
def f_X12_work (x1 : Int32) (x2 : Int32) (σ : MS) : Option (Int32) := b_X12_work_0  x1 x2 σ
theorem con_X12_work {Ω : OM} (hO : OKO Ω) (hΩ : oSH Ω = SHM) (x1 : Int32) (x2 : Int32) (σ : MS)  : Con Ω yX12_work cX12_work 3 (some .int) rm_X12_work (emPI σ) [.ref 0, .int x1, .int x2] σ (f_X12_work x1 x2 σ) :=
  con_of hO (by decide +kernel) (Nat.le_of_ble_eq_true rfl) rfl (fun X hX _ => c_X12_work_0 hX hO hΩ   σ x1 x2)
def it_X12_sumOf : List (Nat × Instr × Nat × Nat) := [(0, .aload_n 0, 1, 1), (1, .getfield 120, 3, 4), (4, .iconst 0, 1, 5), (5, .iload_n 1, 1, 6), (6, .i2l, 1, 7), (7, .lastore, 1, 8), (8, .aload_n 0, 1, 9), (9, .getfield 120, 3, 12), (12, .iconst 1, 1, 13), (13, .iload_n 2, 1, 14), (14, .i2l, 1, 15), (15, .lastore, 1, 16), (16, .aload_n 0, 1, 17), (17, .getfield 120, 3, 20), (20, .iconst 2, 1, 21), (21, .aload_n 0, 1, 22), (22, .getfield 31, 3, 25), (25, .iload_n 2, 1, 26), (26, .iaload, 1, 27), (27, .i2l, 1, 28), (28, .lastore, 1, 29), (29, .aload_n 0, 1, 30), (30, .getfield 120, 3, 33), (33, .iconst 3, 1, 34), (34, .aload_n 0, 1, 35), (35, .getfield 16, 3, 38), (38, .aload_n 0, 1, 39), (39, .getfield 31, 3, 42), (42, .iload_n 2, 1, 43), (43, .iaload, 1, 44), (44, .iaload, 1, 45), (45, .i2l, 1, 46), (46, .lastore, 1, 47), (47, .aload_n 0, 1, 48), (48, .getfield 120, 3, 51), (51, .iconst 4, 1, 52), (52, .aload_n 0, 1, 53), (53, .getfield 13, 3, 56), (56, .aload_n 0, 1, 57), (57, .getfield 31, 3, 60), (60, .iload_n 2, 1, 61), (61, .iaload, 1, 62), (62, .iaload, 1, 63), (63, .i2l, 1, 64), (64, .lastore, 1, 65), (65, .aload_n 0, 1, 66), (66, .getfield 120, 3, 69), (69, .iconst 5, 1, 70), (70, .aload_n 0, 1, 71), (71, .getfield 19, 3, 74), (74, .iload_n 1, 1, 75), (75, .iaload, 1, 76), (76, .i2l, 1, 77), (77, .lastore, 1, 78), (78, .aload_n 0, 1, 79), (79, .getfield 120, 3, 82), (82, .bipush 6, 2, 84), (84, .aload_n 0, 1, 85), (85, .iload_n 1, 1, 86), (86, .invokevirtual 384, 3, 89), (89, .invokestatic 387, 3, 92), (92, .i2l, 1, 93), (93, .lastore, 1, 94), (94, .aload_n 0, 1, 95), (95, .getfield 120, 3, 98), (98, .bipush 7, 2, 100), (100, .aload_n 0, 1, 101), (101, .getfield 28, 3, 104), (104, .iload_n 1, 1, 105), (105, .iaload, 1, 106), (106, .i2l, 1, 107), (107, .lastore, 1, 108), (108, .aload_n 0, 1, 109), (109, .getfield 120, 3, 112), (112, .bipush 8, 2, 114), (114, .aload_n 0, 1, 115), (115, .getfield 9, 3, 118), (118, .iconst 5, 1, 119), (119, .iaload, 1, 120), (120, .i2l, 1, 121), (121, .lastore, 1, 122), (122, .aload_n 0, 1, 123), (123, .getfield 120, 3, 126), (126, .bipush 9, 2, 128), (128, .aload_n 0, 1, 129), (129, .iload_n 1, 1, 130), (130, .aload_n 0, 1, 131), (131, .getfield 9, 3, 134), (134, .iconst 5, 1, 135), (135, .iaload, 1, 136), (136, .invokevirtual 399, 3, 139), (139, .i2l, 1, 140), (140, .lastore, 1, 141), (141, .aload_n 0, 1, 142), (142, .getfield 120, 3, 145), (145, .bipush 10, 2, 147), (147, .aload_n 0, 1, 148), (148, .getfield 9, 3, 151), (151, .bipush 6, 2, 153), (153, .iaload, 1, 154), (154, .iload_n 2, 1, 155), (155, .invokestatic 396, 3, 158), (158, .ifCond .eq 7, 3, 161), (161, .lconst 1, 1, 162), (162, .goto 4, 3, 165), (165, .lconst 0, 1, 166), (166, .lastore, 1, 167), (167, .aload_n 0, 1, 168), (168, .getfield 120, 3, 171), (171, .bipush 11, 2, 173), (173, .aload_n 0, 1, 174), (174, .getfield 37, 3, 177), (177, .iload_n 2, 1, 178), (178, .iaload, 1, 179), (179, .i2l, 1, 180), (180, .lastore, 1, 181), (181, .aload_n 0, 1, 182), (182, .invokevirtual 402, 3, 185), (185, .lreturn, 1, 186)]
theorem id_X12_sumOf : ∀ q ∈ it_X12_sumOf, decode cX12_sumOf q.1 = .ok (q.2.1, q.2.2.1) ∧ q.1 + q.2.2.1 = q.2.2.2 := by decide +kernel
theorem dc_X12_sumOf {pc : Nat} {i : Instr} {n pc' : Nat} (j : Nat) (h : it_X12_sumOf[j]? = some (pc, i, n, pc')) : Dc cX12_sumOf pc i n pc' := dc_of id_X12_sumOf j h
abbrev rm_X12_sumOf : Room := { frames := 4, cells := 0, slots := 0, locals := 93 }
def b_X12_sumOf_166    (y2 : Int32) (s0 : Int64) (s1 : Int32) (σ : MS) : Option (Int64 × MS) := chk (inb s1 12) (chk (inb y2 6) ((f_X12_wanted (wJ (wJ σ 36 (ix s1) s0) 36 11 ((sI (wJ σ 36 (ix s1) s0) 10 (ix y2))).toInt64)).bind (fun r18 => some (r18.1, r18.2))))
set_option maxHeartbeats 4000000 in
set_option maxRecDepth 20000 in
theorem c_X12_sumOf_166 {X : CX} {Ω : OM} (hX : CF X Ω RX12 cX12_sumOf 3 (some .long) rm_X12_sumOf) (hO : OKO Ω) (hΩ : oSH Ω = SHM)     (y2 : Int32) (s0 : Int64) (s1 : Int32) (σ : MS)  : GE X Ω 3 0 0 (emWL) 0 0 166 [(0, .ref 0), (2, .int y2)] [.long s0, .int s1, .ref 36] σ (b_X12_sumOf_166  y2 s0 s1 σ) := by
  unfold b_X12_sumOf_166
  refine g_chk (fun hc16 => ?_)
  refine g_last hX (dc_X12_sumOf 106 rfl) (stS hΩ 36 rfl) hc16 rfl ?_
  refine g_aload_n hX (dc_X12_sumOf 107 rfl) rfl 0 rfl ?_
  refine g_getF (q := 36) hX (dc_X12_sumOf 108 rfl) fl_X12_120 (by decide) rfl (stS hΩ 0 rfl) rfl ?_
  refine g_bipush (w := (11 : Int32)) hX (dc_X12_sumOf 109 rfl) (by decide) ?_
  refine g_aload_n hX (dc_X12_sumOf 110 rfl) rfl 0 rfl ?_
  refine g_getF (q := 10) hX (dc_X12_sumOf 111 rfl) fl_X12_37 (by decide) rfl (stS hΩ 0 rfl) rfl ?_
  refine g_iload_n hX (dc_X12_sumOf 112 rfl) rfl 1 rfl ?_
  refine g_chk (fun hc17 => ?_)
  refine g_iald hX (dc_X12_sumOf 113 rfl) (stS hΩ 10 rfl) hc17 rfl ?_
  refine g_i2l hX (dc_X12_sumOf 114 rfl) ?_
  refine g_last (j := 11) hX (dc_X12_sumOf 115 rfl) (stS hΩ 36 rfl) (by decide) (by decide) ?_
  refine g_aload_n hX (dc_X12_sumOf 116 rfl) rfl 0 rfl ?_
  refine gV_WL (As := []) (st := []) hX (dc_X12_sumOf 117 rfl) ml_X12_402 (con_X12_wanted hO hΩ (wJ (wJ σ 36 (ix s1) s0) 36 11 ((sI (wJ σ 36 (ix s1) s0) 10 (ix y2))).toInt64)) (stS hΩ 0 rfl) rfl rfl ⟨by decide, by decide⟩ ⟨rfl, rfl⟩ ⟨Nat.zero_le _, Nat.zero_le _⟩ (Nat.le_of_ble_eq_true rfl) (fun r18 _ => ?_)
  exact g_lret hX (dc_X12_sumOf 118 rfl) rfl (Nat.le_refl _) (Nat.le_refl _)
def b_X12_sumOf_94    (y1 : Int32) (y2 : Int32) (σ : MS) : Option (Int64 × MS) := chk (inb y1 4) ((f_X12_awakeFor y1 (sI (wJ (wJ σ 36 7 ((sI σ 7 (ix y1))).toInt64) 36 8 ((sI (wJ σ 36 7 ((sI σ 7 (ix y1))).toInt64) 1 5)).toInt64) 1 5) (wJ (wJ σ 36 7 ((sI σ 7 (ix y1))).toInt64) 36 8 ((sI (wJ σ 36 7 ((sI σ 7 (ix y1))).toInt64) 1 5)).toInt64)).bind (fun r20 => (f_X12_has (sI (wJ (wJ (wJ σ 36 7 ((sI σ 7 (ix y1))).toInt64) 36 8 ((sI (wJ σ 36 7 ((sI σ 7 (ix y1))).toInt64) 1 5)).toInt64) 36 9 (r20).toInt64) 1 6) y2).bind (fun r21 => (if r21 = 0 then (b_X12_sumOf_166 (y2) ((0 : Int64)) ((10 : Int32)) (wJ (wJ (wJ σ 36 7 ((sI σ 7 (ix y1))).toInt64) 36 8 ((sI (wJ σ 36 7 ((sI σ 7 (ix y1))).toInt64) 1 5)).toInt64) 36 9 (r20).toInt64)) else (b_X12_sumOf_166 (y2) ((1 : Int64)) ((10 : Int32)) (wJ (wJ (wJ σ 36 7 ((sI σ 7 (ix y1))).toInt64) 36 8 ((sI (wJ σ 36 7 ((sI σ 7 (ix y1))).toInt64) 1 5)).toInt64) 36 9 (r20).toInt64))))))
set_option maxHeartbeats 4000000 in
set_option maxRecDepth 20000 in
theorem c_X12_sumOf_94 {X : CX} {Ω : OM} (hX : CF X Ω RX12 cX12_sumOf 3 (some .long) rm_X12_sumOf) (hO : OKO Ω) (hΩ : oSH Ω = SHM)     (y1 : Int32) (y2 : Int32) (σ : MS)  : GE X Ω 3 0 0 (emWL) 0 0 94 [(0, .ref 0), (1, .int y1), (2, .int y2)] [] σ (b_X12_sumOf_94  y1 y2 σ) := by
  unfold b_X12_sumOf_94
  refine g_aload_n hX (dc_X12_sumOf 63 rfl) rfl 0 rfl ?_
  refine g_getF (q := 36) hX (dc_X12_sumOf 64 rfl) fl_X12_120 (by decide) rfl (stS hΩ 0 rfl) rfl ?_
  refine g_bipush (w := (7 : Int32)) hX (dc_X12_sumOf 65 rfl) (by decide) ?_
  refine g_aload_n hX (dc_X12_sumOf 66 rfl) rfl 0 rfl ?_
  refine g_getF (q := 7) hX (dc_X12_sumOf 67 rfl) fl_X12_28 (by decide) rfl (stS hΩ 0 rfl) rfl ?_
  refine g_iload_n hX (dc_X12_sumOf 68 rfl) rfl 1 rfl ?_
  refine g_chk (fun hc19 => ?_)
  refine g_iald hX (dc_X12_sumOf 69 rfl) (stS hΩ 7 rfl) hc19 rfl ?_
  refine g_i2l hX (dc_X12_sumOf 70 rfl) ?_
  refine g_last (j := 7) hX (dc_X12_sumOf 71 rfl) (stS hΩ 36 rfl) (by decide) (by decide) ?_
  refine g_aload_n hX (dc_X12_sumOf 72 rfl) rfl 0 rfl ?_
  refine g_getF (q := 36) hX (dc_X12_sumOf 73 rfl) fl_X12_120 (by decide) rfl (stS hΩ 0 rfl) rfl ?_
  refine g_bipush (w := (8 : Int32)) hX (dc_X12_sumOf 74 rfl) (by decide) ?_
  refine g_aload_n hX (dc_X12_sumOf 75 rfl) rfl 0 rfl ?_
  refine g_getF (q := 1) hX (dc_X12_sumOf 76 rfl) fl_X12_9 (by decide) rfl (stS hΩ 0 rfl) rfl ?_
  refine g_iconst (w := (5 : Int32)) hX (dc_X12_sumOf 77 rfl) (by decide) ?_
  refine g_iald (j := 5) hX (dc_X12_sumOf 78 rfl) (stS hΩ 1 rfl) (by decide) (by decide) ?_
  refine g_i2l hX (dc_X12_sumOf 79 rfl) ?_
  refine g_last (j := 8) hX (dc_X12_sumOf 80 rfl) (stS hΩ 36 rfl) (by decide) (by decide) ?_
  refine g_aload_n hX (dc_X12_sumOf 81 rfl) rfl 0 rfl ?_
  refine g_getF (q := 36) hX (dc_X12_sumOf 82 rfl) fl_X12_120 (by decide) rfl (stS hΩ 0 rfl) rfl ?_
  refine g_bipush (w := (9 : Int32)) hX (dc_X12_sumOf 83 rfl) (by decide) ?_
  refine g_aload_n hX (dc_X12_sumOf 84 rfl) rfl 0 rfl ?_
  refine g_iload_n hX (dc_X12_sumOf 85 rfl) rfl 1 rfl ?_
  refine g_aload_n hX (dc_X12_sumOf 86 rfl) rfl 0 rfl ?_
  refine g_getF (q := 1) hX (dc_X12_sumOf 87 rfl) fl_X12_9 (by decide) rfl (stS hΩ 0 rfl) rfl ?_
  refine g_iconst (w := (5 : Int32)) hX (dc_X12_sumOf 88 rfl) (by decide) ?_
  refine g_iald (j := 5) hX (dc_X12_sumOf 89 rfl) (stS hΩ 1 rfl) (by decide) (by decide) ?_
  refine gV_PI (As := [.int y1, .int (sI (wJ (wJ σ 36 7 ((sI σ 7 (ix y1))).toInt64) 36 8 ((sI (wJ σ 36 7 ((sI σ 7 (ix y1))).toInt64) 1 5)).toInt64) 1 5)]) (st := [.int (9 : Int32), .ref 36]) hX (dc_X12_sumOf 90 rfl) ml_X12_399 (con_X12_awakeFor hO hΩ y1 (sI (wJ (wJ σ 36 7 ((sI σ 7 (ix y1))).toInt64) 36 8 ((sI (wJ σ 36 7 ((sI σ 7 (ix y1))).toInt64) 1 5)).toInt64) 1 5) (wJ (wJ σ 36 7 ((sI σ 7 (ix y1))).toInt64) 36 8 ((sI (wJ σ 36 7 ((sI σ 7 (ix y1))).toInt64) 1 5)).toInt64)) (stS hΩ 0 rfl) rfl rfl ⟨by decide, by decide⟩ ⟨rfl, rfl⟩ ⟨Nat.zero_le _, Nat.zero_le _⟩ (Nat.le_of_ble_eq_true rfl) (fun r20 _ => ?_)
  refine g_i2l hX (dc_X12_sumOf 91 rfl) ?_
  refine g_last (j := 9) hX (dc_X12_sumOf 92 rfl) (stS hΩ 36 rfl) (by decide) (by decide) ?_
  refine g_aload_n hX (dc_X12_sumOf 93 rfl) rfl 0 rfl ?_
  refine g_getF (q := 36) hX (dc_X12_sumOf 94 rfl) fl_X12_120 (by decide) rfl (stS hΩ 0 rfl) rfl ?_
  refine g_bipush (w := (10 : Int32)) hX (dc_X12_sumOf 95 rfl) (by decide) ?_
  refine g_aload_n hX (dc_X12_sumOf 96 rfl) rfl 0 rfl ?_
  refine g_getF (q := 1) hX (dc_X12_sumOf 97 rfl) fl_X12_9 (by decide) rfl (stS hΩ 0 rfl) rfl ?_
  refine g_bipush (w := (6 : Int32)) hX (dc_X12_sumOf 98 rfl) (by decide) ?_
  refine g_iald (j := 6) hX (dc_X12_sumOf 99 rfl) (stS hΩ 1 rfl) (by decide) (by decide) ?_
  refine g_iload_n hX (dc_X12_sumOf 100 rfl) rfl 2 rfl ?_
  refine gS_PI (As := [.int (sI (wJ (wJ (wJ σ 36 7 ((sI σ 7 (ix y1))).toInt64) 36 8 ((sI (wJ σ 36 7 ((sI σ 7 (ix y1))).toInt64) 1 5)).toInt64) 36 9 (r20).toInt64) 1 6), .int y2]) (st := [.int (10 : Int32), .ref 36]) hX (dc_X12_sumOf 101 rfl) ml_X12_396 (con_X12_has hO hΩ (sI (wJ (wJ (wJ σ 36 7 ((sI σ 7 (ix y1))).toInt64) 36 8 ((sI (wJ σ 36 7 ((sI σ 7 (ix y1))).toInt64) 1 5)).toInt64) 36 9 (r20).toInt64) 1 6) y2 (wJ (wJ (wJ σ 36 7 ((sI σ 7 (ix y1))).toInt64) 36 8 ((sI (wJ σ 36 7 ((sI σ 7 (ix y1))).toInt64) 1 5)).toInt64) 36 9 (r20).toInt64)) rfl rfl ⟨by decide, by decide⟩ ⟨rfl, rfl⟩ ⟨Nat.zero_le _, Nat.zero_le _⟩ (Nat.le_of_ble_eq_true rfl) (fun r21 _ => ?_)
  refine g_if_eq (tgt := 165) hX (dc_X12_sumOf 102 rfl) (by decide) (fun h22 => ?_) (fun h22 => ?_)
  · refine g_lconst (w := (0 : Int64)) hX (dc_X12_sumOf 105 rfl) (by decide) ?_
    exact g_sub [0, 2] rfl (c_X12_sumOf_166 hX hO hΩ (y2) ((0 : Int64)) ((10 : Int32)) (wJ (wJ (wJ σ 36 7 ((sI σ 7 (ix y1))).toInt64) 36 8 ((sI (wJ σ 36 7 ((sI σ 7 (ix y1))).toInt64) 1 5)).toInt64) 36 9 (r20).toInt64))
  · refine g_lconst (w := (1 : Int64)) hX (dc_X12_sumOf 103 rfl) (by decide) ?_
    refine g_goto (tgt := 166) hX (dc_X12_sumOf 104 rfl) (by decide) ?_
    exact g_sub [0, 2] rfl (c_X12_sumOf_166 hX hO hΩ (y2) ((1 : Int64)) ((10 : Int32)) (wJ (wJ (wJ σ 36 7 ((sI σ 7 (ix y1))).toInt64) 36 8 ((sI (wJ σ 36 7 ((sI σ 7 (ix y1))).toInt64) 1 5)).toInt64) 36 9 (r20).toInt64))
def b_X12_sumOf_47    (y1 : Int32) (y2 : Int32) (σ : MS) : Option (Int64 × MS) := chk (inb y2 6) (chk (inb (sI σ 8 (ix y2)) 5) (chk (inb y1 4) ((f_X12_heldBy y1 (wJ (wJ σ 36 4 ((sI σ 2 (ix (sI σ 8 (ix y2))))).toInt64) 36 5 ((sI (wJ σ 36 4 ((sI σ 2 (ix (sI σ 8 (ix y2))))).toInt64) 4 (ix y1))).toInt64)).bind (fun r26 => (f_X12_bits r26).bind (fun r27 => (b_X12_sumOf_94 (y1) (y2) (wJ (wJ (wJ σ 36 4 ((sI σ 2 (ix (sI σ 8 (ix y2))))).toInt64) 36 5 ((sI (wJ σ 36 4 ((sI σ 2 (ix (sI σ 8 (ix y2))))).toInt64) 4 (ix y1))).toInt64) 36 6 (r27).toInt64)))))))
set_option maxHeartbeats 4000000 in
set_option maxRecDepth 20000 in
theorem c_X12_sumOf_47 {X : CX} {Ω : OM} (hX : CF X Ω RX12 cX12_sumOf 3 (some .long) rm_X12_sumOf) (hO : OKO Ω) (hΩ : oSH Ω = SHM)     (y1 : Int32) (y2 : Int32) (σ : MS)  : GE X Ω 3 0 0 (emWL) 0 0 47 [(0, .ref 0), (1, .int y1), (2, .int y2)] [] σ (b_X12_sumOf_47  y1 y2 σ) := by
  unfold b_X12_sumOf_47
  refine g_aload_n hX (dc_X12_sumOf 33 rfl) rfl 0 rfl ?_
  refine g_getF (q := 36) hX (dc_X12_sumOf 34 rfl) fl_X12_120 (by decide) rfl (stS hΩ 0 rfl) rfl ?_
  refine g_iconst (w := (4 : Int32)) hX (dc_X12_sumOf 35 rfl) (by decide) ?_
  refine g_aload_n hX (dc_X12_sumOf 36 rfl) rfl 0 rfl ?_
  refine g_getF (q := 2) hX (dc_X12_sumOf 37 rfl) fl_X12_13 (by decide) rfl (stS hΩ 0 rfl) rfl ?_
  refine g_aload_n hX (dc_X12_sumOf 38 rfl) rfl 0 rfl ?_
  refine g_getF (q := 8) hX (dc_X12_sumOf 39 rfl) fl_X12_31 (by decide) rfl (stS hΩ 0 rfl) rfl ?_
  refine g_iload_n hX (dc_X12_sumOf 40 rfl) rfl 2 rfl ?_
  refine g_chk (fun hc23 => ?_)
  refine g_iald hX (dc_X12_sumOf 41 rfl) (stS hΩ 8 rfl) hc23 rfl ?_
  refine g_chk (fun hc24 => ?_)
  refine g_iald hX (dc_X12_sumOf 42 rfl) (stS hΩ 2 rfl) hc24 rfl ?_
  refine g_i2l hX (dc_X12_sumOf 43 rfl) ?_
  refine g_last (j := 4) hX (dc_X12_sumOf 44 rfl) (stS hΩ 36 rfl) (by decide) (by decide) ?_
  refine g_aload_n hX (dc_X12_sumOf 45 rfl) rfl 0 rfl ?_
  refine g_getF (q := 36) hX (dc_X12_sumOf 46 rfl) fl_X12_120 (by decide) rfl (stS hΩ 0 rfl) rfl ?_
  refine g_iconst (w := (5 : Int32)) hX (dc_X12_sumOf 47 rfl) (by decide) ?_
  refine g_aload_n hX (dc_X12_sumOf 48 rfl) rfl 0 rfl ?_
  refine g_getF (q := 4) hX (dc_X12_sumOf 49 rfl) fl_X12_19 (by decide) rfl (stS hΩ 0 rfl) rfl ?_
  refine g_iload_n hX (dc_X12_sumOf 50 rfl) rfl 1 rfl ?_
  refine g_chk (fun hc25 => ?_)
  refine g_iald hX (dc_X12_sumOf 51 rfl) (stS hΩ 4 rfl) hc25 rfl ?_
  refine g_i2l hX (dc_X12_sumOf 52 rfl) ?_
  refine g_last (j := 5) hX (dc_X12_sumOf 53 rfl) (stS hΩ 36 rfl) (by decide) (by decide) ?_
  refine g_aload_n hX (dc_X12_sumOf 54 rfl) rfl 0 rfl ?_
  refine g_getF (q := 36) hX (dc_X12_sumOf 55 rfl) fl_X12_120 (by decide) rfl (stS hΩ 0 rfl) rfl ?_
  refine g_bipush (w := (6 : Int32)) hX (dc_X12_sumOf 56 rfl) (by decide) ?_
  refine g_aload_n hX (dc_X12_sumOf 57 rfl) rfl 0 rfl ?_
  refine g_iload_n hX (dc_X12_sumOf 58 rfl) rfl 1 rfl ?_
  refine gV_PI (As := [.int y1]) (st := [.int (6 : Int32), .ref 36]) hX (dc_X12_sumOf 59 rfl) ml_X12_384 (con_X12_heldBy hO hΩ y1 (wJ (wJ σ 36 4 ((sI σ 2 (ix (sI σ 8 (ix y2))))).toInt64) 36 5 ((sI (wJ σ 36 4 ((sI σ 2 (ix (sI σ 8 (ix y2))))).toInt64) 4 (ix y1))).toInt64)) (stS hΩ 0 rfl) rfl rfl ⟨by decide, by decide⟩ ⟨rfl, rfl⟩ ⟨Nat.zero_le _, Nat.zero_le _⟩ (Nat.le_of_ble_eq_true rfl) (fun r26 _ => ?_)
  refine gS_PI (As := [.int r26]) (st := [.int (6 : Int32), .ref 36]) hX (dc_X12_sumOf 60 rfl) ml_X12_387 (con_X12_bits hO hΩ r26 (wJ (wJ σ 36 4 ((sI σ 2 (ix (sI σ 8 (ix y2))))).toInt64) 36 5 ((sI (wJ σ 36 4 ((sI σ 2 (ix (sI σ 8 (ix y2))))).toInt64) 4 (ix y1))).toInt64)) rfl rfl ⟨by decide, by decide⟩ ⟨rfl, rfl⟩ ⟨Nat.zero_le _, Nat.zero_le _⟩ (Nat.le_of_ble_eq_true rfl) (fun r27 _ => ?_)
  refine g_i2l hX (dc_X12_sumOf 61 rfl) ?_
  refine g_last (j := 6) hX (dc_X12_sumOf 62 rfl) (stS hΩ 36 rfl) (by decide) (by decide) ?_
  exact g_sub [0, 1, 2] rfl (c_X12_sumOf_94 hX hO hΩ (y1) (y2) (wJ (wJ (wJ σ 36 4 ((sI σ 2 (ix (sI σ 8 (ix y2))))).toInt64) 36 5 ((sI (wJ σ 36 4 ((sI σ 2 (ix (sI σ 8 (ix y2))))).toInt64) 4 (ix y1))).toInt64) 36 6 (r27).toInt64))
def b_X12_sumOf_0   (x1 : Int32) (x2 : Int32)  (σ : MS) : Option (Int64 × MS) := chk (inb x2 6) (chk (inb x2 6) (chk (inb (sI (wJ (wJ (wJ σ 36 0 (x1).toInt64) 36 1 (x2).toInt64) 36 2 ((sI (wJ (wJ σ 36 0 (x1).toInt64) 36 1 (x2).toInt64) 8 (ix x2))).toInt64) 8 (ix x2)) 5) ((b_X12_sumOf_47 (x1) (x2) (wJ (wJ (wJ (wJ σ 36 0 (x1).toInt64) 36 1 (x2).toInt64) 36 2 ((sI (wJ (wJ σ 36 0 (x1).toInt64) 36 1 (x2).toInt64) 8 (ix x2))).toInt64) 36 3 ((sI (wJ (wJ (wJ σ 36 0 (x1).toInt64) 36 1 (x2).toInt64) 36 2 ((sI (wJ (wJ σ 36 0 (x1).toInt64) 36 1 (x2).toInt64) 8 (ix x2))).toInt64) 3 (ix (sI (wJ (wJ (wJ σ 36 0 (x1).toInt64) 36 1 (x2).toInt64) 36 2 ((sI (wJ (wJ σ 36 0 (x1).toInt64) 36 1 (x2).toInt64) 8 (ix x2))).toInt64) 8 (ix x2))))).toInt64)))))
set_option maxHeartbeats 4000000 in
set_option maxRecDepth 20000 in
theorem c_X12_sumOf_0 {X : CX} {Ω : OM} (hX : CF X Ω RX12 cX12_sumOf 3 (some .long) rm_X12_sumOf) (hO : OKO Ω) (hΩ : oSH Ω = SHM)    (x1 : Int32) (x2 : Int32)  (σ : MS)  : GE X Ω 3 0 0 (emWL) 0 0 0 [(0, .ref 0), (1, .int x1), (2, .int x2)] [] σ (b_X12_sumOf_0  x1 x2 σ) := by
  unfold b_X12_sumOf_0
  refine g_aload_n hX (dc_X12_sumOf 0 rfl) rfl 0 rfl ?_
  refine g_getF (q := 36) hX (dc_X12_sumOf 1 rfl) fl_X12_120 (by decide) rfl (stS hΩ 0 rfl) rfl ?_
  refine g_iconst (w := (0 : Int32)) hX (dc_X12_sumOf 2 rfl) (by decide) ?_
  refine g_iload_n hX (dc_X12_sumOf 3 rfl) rfl 1 rfl ?_
  refine g_i2l hX (dc_X12_sumOf 4 rfl) ?_
  refine g_last (j := 0) hX (dc_X12_sumOf 5 rfl) (stS hΩ 36 rfl) (by decide) (by decide) ?_
  refine g_aload_n hX (dc_X12_sumOf 6 rfl) rfl 0 rfl ?_
  refine g_getF (q := 36) hX (dc_X12_sumOf 7 rfl) fl_X12_120 (by decide) rfl (stS hΩ 0 rfl) rfl ?_
  refine g_iconst (w := (1 : Int32)) hX (dc_X12_sumOf 8 rfl) (by decide) ?_
  refine g_iload_n hX (dc_X12_sumOf 9 rfl) rfl 2 rfl ?_
  refine g_i2l hX (dc_X12_sumOf 10 rfl) ?_
  refine g_last (j := 1) hX (dc_X12_sumOf 11 rfl) (stS hΩ 36 rfl) (by decide) (by decide) ?_
  refine g_aload_n hX (dc_X12_sumOf 12 rfl) rfl 0 rfl ?_
  refine g_getF (q := 36) hX (dc_X12_sumOf 13 rfl) fl_X12_120 (by decide) rfl (stS hΩ 0 rfl) rfl ?_
  refine g_iconst (w := (2 : Int32)) hX (dc_X12_sumOf 14 rfl) (by decide) ?_
  refine g_aload_n hX (dc_X12_sumOf 15 rfl) rfl 0 rfl ?_
  refine g_getF (q := 8) hX (dc_X12_sumOf 16 rfl) fl_X12_31 (by decide) rfl (stS hΩ 0 rfl) rfl ?_
  refine g_iload_n hX (dc_X12_sumOf 17 rfl) rfl 2 rfl ?_
  refine g_chk (fun hc28 => ?_)
  refine g_iald hX (dc_X12_sumOf 18 rfl) (stS hΩ 8 rfl) hc28 rfl ?_
  refine g_i2l hX (dc_X12_sumOf 19 rfl) ?_
  refine g_last (j := 2) hX (dc_X12_sumOf 20 rfl) (stS hΩ 36 rfl) (by decide) (by decide) ?_
  refine g_aload_n hX (dc_X12_sumOf 21 rfl) rfl 0 rfl ?_
  refine g_getF (q := 36) hX (dc_X12_sumOf 22 rfl) fl_X12_120 (by decide) rfl (stS hΩ 0 rfl) rfl ?_
  refine g_iconst (w := (3 : Int32)) hX (dc_X12_sumOf 23 rfl) (by decide) ?_
  refine g_aload_n hX (dc_X12_sumOf 24 rfl) rfl 0 rfl ?_
  refine g_getF (q := 3) hX (dc_X12_sumOf 25 rfl) fl_X12_16 (by decide) rfl (stS hΩ 0 rfl) rfl ?_
  refine g_aload_n hX (dc_X12_sumOf 26 rfl) rfl 0 rfl ?_
  refine g_getF (q := 8) hX (dc_X12_sumOf 27 rfl) fl_X12_31 (by decide) rfl (stS hΩ 0 rfl) rfl ?_
  refine g_iload_n hX (dc_X12_sumOf 28 rfl) rfl 2 rfl ?_
  refine g_chk (fun hc29 => ?_)
  refine g_iald hX (dc_X12_sumOf 29 rfl) (stS hΩ 8 rfl) hc29 rfl ?_
  refine g_chk (fun hc30 => ?_)
  refine g_iald hX (dc_X12_sumOf 30 rfl) (stS hΩ 3 rfl) hc30 rfl ?_
  refine g_i2l hX (dc_X12_sumOf 31 rfl) ?_
  refine g_last (j := 3) hX (dc_X12_sumOf 32 rfl) (stS hΩ 36 rfl) (by decide) (by decide) ?_
  exact g_sub [0, 1, 2] rfl (c_X12_sumOf_47 hX hO hΩ (x1) (x2) (wJ (wJ (wJ (wJ σ 36 0 (x1).toInt64) 36 1 (x2).toInt64) 36 2 ((sI (wJ (wJ σ 36 0 (x1).toInt64) 36 1 (x2).toInt64) 8 (ix x2))).toInt64) 36 3 ((sI (wJ (wJ (wJ σ 36 0 (x1).toInt64) 36 1 (x2).toInt64) 36 2 ((sI (wJ (wJ σ 36 0 (x1).toInt64) 36 1 (x2).toInt64) 8 (ix x2))).toInt64) 3 (ix (sI (wJ (wJ (wJ σ 36 0 (x1).toInt64) 36 1 (x2).toInt64) 36 2 ((sI (wJ (wJ σ 36 0 (x1).toInt64) 36 1 (x2).toInt64) 8 (ix x2))).toInt64) 8 (ix x2))))).toInt64))
def f_X12_sumOf (x1 : Int32) (x2 : Int32) (σ : MS) : Option (Int64 × MS) := b_X12_sumOf_0  x1 x2 σ
theorem con_X12_sumOf {Ω : OM} (hO : OKO Ω) (hΩ : oSH Ω = SHM) (x1 : Int32) (x2 : Int32) (σ : MS)  : Con Ω yX12_sumOf cX12_sumOf 3 (some .long) rm_X12_sumOf (emWL) [.ref 0, .int x1, .int x2] σ (f_X12_sumOf x1 x2 σ) :=
  con_of hO (by decide +kernel) (Nat.le_of_ble_eq_true rfl) rfl (fun X hX _ => c_X12_sumOf_0 hX hO hΩ   x1 x2 σ )
def it_X12_takerOf : List (Nat × Instr × Nat × Nat) := [(0, .iconst (-1), 1, 1), (1, .istore_n 2, 1, 2), (2, .lconst 0, 1, 3), (3, .lstore_n 3, 1, 4), (4, .iconst 0, 1, 5), (5, .istore 5, 2, 7), (7, .iload 5, 2, 9), (9, .aload_n 0, 1, 10), (10, .getfield 9, 3, 13), (13, .iconst 3, 1, 14), (14, .iaload, 1, 15), (15, .if_icmp .ge 70, 3, 18), (18, .aload_n 0, 1, 19), (19, .iload 5, 2, 21), (21, .aload_n 0, 1, 22), (22, .getfield 9, 3, 25), (25, .iconst 5, 1, 26), (26, .iaload, 1, 27), (27, .invokevirtual 381, 3, 30), (30, .ifCond .ne 49, 3, 33), (33, .aload_n 0, 1, 34), (34, .iload 5, 2, 36), (36, .invokevirtual 406, 3, 39), (39, .ifCond .eq 40, 3, 42), (42, .aload_n 0, 1, 43), (43, .getfield 9, 3, 46), (46, .bipush 9, 2, 48), (48, .iaload, 1, 49), (49, .iconst (-1), 1, 50), (50, .if_icmp .ne 7, 3, 53), (53, .lconst 1, 1, 54), (54, .goto 10, 3, 57), (57, .aload_n 0, 1, 58), (58, .iload 5, 2, 60), (60, .iload_n 1, 1, 61), (61, .invokevirtual 409, 3, 64), (64, .lstore 6, 2, 66), (66, .lload 6, 2, 68), (68, .lload_n 3, 1, 69), (69, .lcmp, 1, 70), (70, .ifCond .le 9, 3, 73), (73, .iload 5, 2, 75), (75, .istore_n 2, 1, 76), (76, .lload 6, 2, 78), (78, .lstore_n 3, 1, 79), (79, .iinc 5 1, 3, 82), (82, .goto (-75), 3, 85), (85, .iload_n 2, 1, 86), (86, .ireturn, 1, 87)]
theorem id_X12_takerOf : ∀ q ∈ it_X12_takerOf, decode cX12_takerOf q.1 = .ok (q.2.1, q.2.2.1) ∧ q.1 + q.2.2.1 = q.2.2.2 := by decide +kernel
theorem dc_X12_takerOf {pc : Nat} {i : Instr} {n pc' : Nat} (j : Nat) (h : it_X12_takerOf[j]? = some (pc, i, n, pc')) : Dc cX12_takerOf pc i n pc' := dc_of id_X12_takerOf j h
abbrev rm_X12_takerOf : Room := { frames := 5, cells := 0, slots := 0, locals := 115 }
def b_X12_takerOf_79  (k7 : Int32 → Int32 → Int64 → Int32 → MS → Option (Int32 × MS))  (y1 : Int32) (y2 : Int32) (y3 : Int64) (y5 : Int32) (σ : MS) : Option (Int32 × MS) := (k7 (y1) (y2) (y3) ((y5 + (1 : Int32))) σ)
set_option maxHeartbeats 4000000 in
set_option maxRecDepth 20000 in
theorem c_X12_takerOf_79 {X : CX} {Ω : OM} (hX : CF X Ω RX12 cX12_takerOf 8 (some .int) rm_X12_takerOf) (hO : OKO Ω) (hΩ : oSH Ω = SHM)   (k7 : Int32 → Int32 → Int64 → Int32 → MS → Option (Int32 × MS)) (hk7 : ∀ (y1 : Int32) (y2 : Int32) (y3 : Int64) (y5 : Int32) (σ : MS) , GE X Ω 8 0 0 (emWI) 0 0 7 [(0, .ref 0), (1, .int y1), (2, .int y2), (3, .long y3), (5, .int y5)] [] σ (k7 y1 y2 y3 y5 σ))  (y1 : Int32) (y2 : Int32) (y3 : Int64) (y5 : Int32) (σ : MS)  : GE X Ω 8 0 0 (emWI) 0 0 79 [(0, .ref 0), (1, .int y1), (2, .int y2), (3, .long y3), (5, .int y5)] [] σ (b_X12_takerOf_79  k7 y1 y2 y3 y5 σ) := by
  unfold b_X12_takerOf_79
  refine g_iinc (w := (y5 + (1 : Int32))) (L' := [(5, .int (y5 + (1 : Int32))), (0, .ref 0), (1, .int y1), (2, .int y2), (3, .long y3)]) hX (dc_X12_takerOf 45 rfl) 4 rfl rfl (by decide) rfl ?_
  refine g_goto (tgt := 7) hX (dc_X12_takerOf 46 rfl) (by decide) ?_
  exact g_sub [1, 2, 3, 4, 0] rfl (hk7 (y1) (y2) (y3) ((y5 + (1 : Int32))) σ )
def b_X12_takerOf_64  (k7 : Int32 → Int32 → Int64 → Int32 → MS → Option (Int32 × MS))  (y1 : Int32) (y2 : Int32) (y3 : Int64) (y5 : Int32) (s0 : Int64) (σ : MS) : Option (Int32 × MS) := (if (lg_cmp s0 y3) ≤ 0 then (b_X12_takerOf_79 k7 (y1) (y2) (y3) (y5) σ) else (b_X12_takerOf_79 k7 (y1) (y5) (s0) (y5) σ))
set_option maxHeartbeats 4000000 in
set_option maxRecDepth 20000 in
theorem c_X12_takerOf_64 {X : CX} {Ω : OM} (hX : CF X Ω RX12 cX12_takerOf 8 (some .int) rm_X12_takerOf) (hO : OKO Ω) (hΩ : oSH Ω = SHM)   (k7 : Int32 → Int32 → Int64 → Int32 → MS → Option (Int32 × MS)) (hk7 : ∀ (y1 : Int32) (y2 : Int32) (y3 : Int64) (y5 : Int32) (σ : MS) , GE X Ω 8 0 0 (emWI) 0 0 7 [(0, .ref 0), (1, .int y1), (2, .int y2), (3, .long y3), (5, .int y5)] [] σ (k7 y1 y2 y3 y5 σ))  (y1 : Int32) (y2 : Int32) (y3 : Int64) (y5 : Int32) (s0 : Int64) (σ : MS)  : GE X Ω 8 0 0 (emWI) 0 0 64 [(0, .ref 0), (1, .int y1), (2, .int y2), (3, .long y3), (5, .int y5)] [.long s0] σ (b_X12_takerOf_64  k7 y1 y2 y3 y5 s0 σ) := by
  unfold b_X12_takerOf_64
  refine g_lstore (L' := [(6, .long s0), (0, .ref 0), (1, .int y1), (2, .int y2), (3, .long y3), (5, .int y5)]) hX (dc_X12_takerOf 36 rfl) (by decide) rfl ?_
  refine g_lload hX (dc_X12_takerOf 37 rfl) 0 rfl ?_
  refine g_lload_n hX (dc_X12_takerOf 38 rfl) rfl 4 rfl ?_
  refine g_lcmp hX (dc_X12_takerOf 39 rfl) ?_
  refine g_if_le (tgt := 79) hX (dc_X12_takerOf 40 rfl) (by decide) (fun h9 => ?_) (fun h9 => ?_)
  · exact g_sub [1, 2, 3, 4, 5] rfl (c_X12_takerOf_79 hX hO hΩ _ hk7 (y1) (y2) (y3) (y5) σ)
  · refine g_iload hX (dc_X12_takerOf 41 rfl) 5 rfl ?_
    refine g_istore_n (L' := [(2, .int y5), (6, .long s0), (0, .ref 0), (1, .int y1), (3, .long y3), (5, .int y5)]) hX (dc_X12_takerOf 42 rfl) rfl (by decide) rfl ?_
    refine g_lload hX (dc_X12_takerOf 43 rfl) 1 rfl ?_
    refine g_lstore_n (L' := [(3, .long s0), (2, .int y5), (6, .long s0), (0, .ref 0), (1, .int y1), (5, .int y5)]) hX (dc_X12_takerOf 44 rfl) rfl (by decide) rfl ?_
    exact g_sub [3, 4, 1, 0, 5] rfl (c_X12_takerOf_79 hX hO hΩ _ hk7 (y1) (y5) (s0) (y5) σ)
def b_X12_takerOf_7   : Nat → Int32 → Int32 → Int64 → Int32 → MS → Option (Int32 × MS)
  | 0, _, _, _, _, _ => none
  | n + 1, y1, y2, y3, y5, σ => (if (sI σ 1 3) ≤ y5 then some (y2, σ) else (f_X12_isAsleep y5 (sI σ 1 5) σ).bind (fun r11 => (if r11 = 0 then (f_X12_hasHand y5 σ).bind (fun r13 => (if r13 = 0 then (b_X12_takerOf_79 (b_X12_takerOf_7  n) (y1) (y2) (y3) (y5) σ) else (if (sI σ 1 9) = (-1 : Int32) then (b_X12_takerOf_64 (b_X12_takerOf_7  n) (y1) (y2) (y3) (y5) ((1 : Int64)) σ) else (f_X12_sumOf y5 y1 σ).bind (fun r16 => (b_X12_takerOf_64 (b_X12_takerOf_7  n) (y1) (y2) (y3) (y5) (r16.1) r16.2))))) else (b_X12_takerOf_79 (b_X12_takerOf_7  n) (y1) (y2) (y3) (y5) σ))))
set_option maxHeartbeats 4000000 in
set_option maxRecDepth 20000 in
theorem c_X12_takerOf_7 {X : CX} {Ω : OM} (hX : CF X Ω RX12 cX12_takerOf 8 (some .int) rm_X12_takerOf) (hO : OKO Ω) (hΩ : oSH Ω = SHM)    : ∀ (n : Nat) (y1 : Int32) (y2 : Int32) (y3 : Int64) (y5 : Int32) (σ : MS) , GE X Ω 8 0 0 (emWI) 0 0 7 [(0, .ref 0), (1, .int y1), (2, .int y2), (3, .long y3), (5, .int y5)] [] σ (b_X12_takerOf_7  n y1 y2 y3 y5 σ)
  | 0, _, _, _, _, _ => g_none
  | n + 1, y1, y2, y3, y5, σ => by
    have hk7 := c_X12_takerOf_7 hX hO hΩ  n
    unfold b_X12_takerOf_7
    refine g_iload hX (dc_X12_takerOf 6 rfl) 4 rfl ?_
    refine g_aload_n hX (dc_X12_takerOf 7 rfl) rfl 0 rfl ?_
    refine g_getF (q := 1) hX (dc_X12_takerOf 8 rfl) fl_X12_9 (by decide) rfl (stS hΩ 0 rfl) rfl ?_
    refine g_iconst (w := (3 : Int32)) hX (dc_X12_takerOf 9 rfl) (by decide) ?_
    refine g_iald (j := 3) hX (dc_X12_takerOf 10 rfl) (stS hΩ 1 rfl) (by decide) (by decide) ?_
    refine g_icmp_ge (tgt := 85) hX (dc_X12_takerOf 11 rfl) (by decide) (fun h10 => ?_) (fun h10 => ?_)
    · refine g_iload_n hX (dc_X12_takerOf 47 rfl) rfl 2 rfl ?_
      exact g_iret hX (dc_X12_takerOf 48 rfl) rfl rfl (Nat.le_refl _) (Nat.le_refl _)
    · refine g_aload_n hX (dc_X12_takerOf 12 rfl) rfl 0 rfl ?_
      refine g_iload hX (dc_X12_takerOf 13 rfl) 4 rfl ?_
      refine g_aload_n hX (dc_X12_takerOf 14 rfl) rfl 0 rfl ?_
      refine g_getF (q := 1) hX (dc_X12_takerOf 15 rfl) fl_X12_9 (by decide) rfl (stS hΩ 0 rfl) rfl ?_
      refine g_iconst (w := (5 : Int32)) hX (dc_X12_takerOf 16 rfl) (by decide) ?_
      refine g_iald (j := 5) hX (dc_X12_takerOf 17 rfl) (stS hΩ 1 rfl) (by decide) (by decide) ?_
      refine gV_PI (As := [.int y5, .int (sI σ 1 5)]) (st := []) hX (dc_X12_takerOf 18 rfl) ml_X12_381 (con_X12_isAsleep hO hΩ y5 (sI σ 1 5) σ) (stS hΩ 0 rfl) rfl rfl ⟨by decide, by decide⟩ ⟨rfl, rfl⟩ ⟨Nat.zero_le _, Nat.zero_le _⟩ (Nat.le_of_ble_eq_true rfl) (fun r11 _ => ?_)
      refine g_if_ne (tgt := 79) hX (dc_X12_takerOf 19 rfl) (by decide) (fun h12 => ?_) (fun h12 => ?_)
      · refine g_aload_n hX (dc_X12_takerOf 20 rfl) rfl 0 rfl ?_
        refine g_iload hX (dc_X12_takerOf 21 rfl) 4 rfl ?_
        refine gV_PI (As := [.int y5]) (st := []) hX (dc_X12_takerOf 22 rfl) ml_X12_406 (con_X12_hasHand hO hΩ y5 σ) (stS hΩ 0 rfl) rfl rfl ⟨by decide, by decide⟩ ⟨rfl, rfl⟩ ⟨Nat.zero_le _, Nat.zero_le _⟩ (Nat.le_of_ble_eq_true rfl) (fun r13 _ => ?_)
        refine g_if_eq (tgt := 79) hX (dc_X12_takerOf 23 rfl) (by decide) (fun h14 => ?_) (fun h14 => ?_)
        · exact g_sub [0, 1, 2, 3, 4] rfl (c_X12_takerOf_79 hX hO hΩ _ hk7 (y1) (y2) (y3) (y5) σ)
        · refine g_aload_n hX (dc_X12_takerOf 24 rfl) rfl 0 rfl ?_
          refine g_getF (q := 1) hX (dc_X12_takerOf 25 rfl) fl_X12_9 (by decide) rfl (stS hΩ 0 rfl) rfl ?_
          refine g_bipush (w := (9 : Int32)) hX (dc_X12_takerOf 26 rfl) (by decide) ?_
          refine g_iald (j := 9) hX (dc_X12_takerOf 27 rfl) (stS hΩ 1 rfl) (by decide) (by decide) ?_
          refine g_iconst (w := (-1 : Int32)) hX (dc_X12_takerOf 28 rfl) (by decide) ?_
          refine g_icmp_ne (tgt := 57) hX (dc_X12_takerOf 29 rfl) (by decide) (fun h15 => ?_) (fun h15 => ?_)
          · refine g_lconst (w := (1 : Int64)) hX (dc_X12_takerOf 30 rfl) (by decide) ?_
            refine g_goto (tgt := 64) hX (dc_X12_takerOf 31 rfl) (by decide) ?_
            exact g_sub [0, 1, 2, 3, 4] rfl (c_X12_takerOf_64 hX hO hΩ _ hk7 (y1) (y2) (y3) (y5) ((1 : Int64)) σ)
          · refine g_aload_n hX (dc_X12_takerOf 32 rfl) rfl 0 rfl ?_
            refine g_iload hX (dc_X12_takerOf 33 rfl) 4 rfl ?_
            refine g_iload_n hX (dc_X12_takerOf 34 rfl) rfl 1 rfl ?_
            refine gV_WL (As := [.int y5, .int y1]) (st := []) hX (dc_X12_takerOf 35 rfl) ml_X12_409 (con_X12_sumOf hO hΩ y5 y1 σ) (stS hΩ 0 rfl) rfl rfl ⟨by decide, by decide⟩ ⟨rfl, rfl⟩ ⟨Nat.zero_le _, Nat.zero_le _⟩ (Nat.le_of_ble_eq_true rfl) (fun r16 _ => ?_)
            exact g_sub [0, 1, 2, 3, 4] rfl (c_X12_takerOf_64 hX hO hΩ _ hk7 (y1) (y2) (y3) (y5) (r16.1) r16.2)
      · exact g_sub [0, 1, 2, 3, 4] rfl (c_X12_takerOf_79 hX hO hΩ _ hk7 (y1) (y2) (y3) (y5) σ)
def b_X12_takerOf_0   (x1 : Int32)  (σ : MS) : Option (Int32 × MS) := (b_X12_takerOf_7 FU (x1) ((-1 : Int32)) ((0 : Int64)) ((0 : Int32)) σ)
set_option maxHeartbeats 4000000 in
set_option maxRecDepth 20000 in
theorem c_X12_takerOf_0 {X : CX} {Ω : OM} (hX : CF X Ω RX12 cX12_takerOf 8 (some .int) rm_X12_takerOf) (hO : OKO Ω) (hΩ : oSH Ω = SHM)    (x1 : Int32)  (σ : MS)  : GE X Ω 8 0 0 (emWI) 0 0 0 [(0, .ref 0), (1, .int x1)] [] σ (b_X12_takerOf_0  x1 σ) := by
  unfold b_X12_takerOf_0
  refine g_iconst (w := (-1 : Int32)) hX (dc_X12_takerOf 0 rfl) (by decide) ?_
  refine g_istore_n (L' := [(2, .int (-1 : Int32)), (0, .ref 0), (1, .int x1)]) hX (dc_X12_takerOf 1 rfl) rfl (by decide) rfl ?_
  refine g_lconst (w := (0 : Int64)) hX (dc_X12_takerOf 2 rfl) (by decide) ?_
  refine g_lstore_n (L' := [(3, .long (0 : Int64)), (2, .int (-1 : Int32)), (0, .ref 0), (1, .int x1)]) hX (dc_X12_takerOf 3 rfl) rfl (by decide) rfl ?_
  refine g_iconst (w := (0 : Int32)) hX (dc_X12_takerOf 4 rfl) (by decide) ?_
  refine g_istore (L' := [(5, .int (0 : Int32)), (3, .long (0 : Int64)), (2, .int (-1 : Int32)), (0, .ref 0), (1, .int x1)]) hX (dc_X12_takerOf 5 rfl) (by decide) rfl ?_
  exact g_sub [3, 4, 2, 1, 0] rfl (c_X12_takerOf_7 hX hO hΩ FU (x1) ((-1 : Int32)) ((0 : Int64)) ((0 : Int32)) σ)
def f_X12_takerOf (x1 : Int32) (σ : MS) : Option (Int32 × MS) := b_X12_takerOf_0  x1 σ
theorem con_X12_takerOf {Ω : OM} (hO : OKO Ω) (hΩ : oSH Ω = SHM) (x1 : Int32) (σ : MS)  : Con Ω yX12_takerOf cX12_takerOf 8 (some .int) rm_X12_takerOf (emWI) [.ref 0, .int x1] σ (f_X12_takerOf x1 σ) :=
  con_of hO (by decide +kernel) (Nat.le_of_ble_eq_true rfl) rfl (fun X hX _ => c_X12_takerOf_0 hX hO hΩ   x1 σ )
def it_X12_drops : List (Nat × Instr × Nat × Nat) := [(0, .aload_n 0, 1, 1), (1, .getfield 34, 3, 4), (4, .iload_n 1, 1, 5), (5, .iconst (-1), 1, 6), (6, .iastore, 1, 7), (7, .aload_n 0, 1, 8), (8, .getfield 9, 3, 11), (11, .bipush 6, 2, 13), (13, .dup2, 1, 14), (14, .iaload, 1, 15), (15, .iconst 1, 1, 16), (16, .iload_n 1, 1, 17), (17, .ishl, 1, 18), (18, .iconst (-1), 1, 19), (19, .ixor, 1, 20), (20, .iand, 1, 21), (21, .iastore, 1, 22), (22, .return_, 1, 23)]
theorem id_X12_drops : ∀ q ∈ it_X12_drops, decode cX12_drops q.1 = .ok (q.2.1, q.2.2.1) ∧ q.1 + q.2.2.1 = q.2.2.2 := by decide +kernel
theorem dc_X12_drops {pc : Nat} {i : Instr} {n pc' : Nat} (j : Nat) (h : it_X12_drops[j]? = some (pc, i, n, pc')) : Dc cX12_drops pc i n pc' := dc_of id_X12_drops j h
abbrev rm_X12_drops : Room := { frames := 0, cells := 0, slots := 0, locals := 0 }
def b_X12_drops_0   (x1 : Int32)  (σ : MS) : Option (MS) := chk (inb x1 6) (some ((wI (wI σ 9 (ix x1) (-1 : Int32)) 1 6 ((sI (wI σ 9 (ix x1) (-1 : Int32)) 1 6) &&& (((1 : Int32) <<< (x1 &&& 31)) ^^^ (-1 : Int32))))))
set_option maxHeartbeats 4000000 in
set_option maxRecDepth 20000 in
theorem c_X12_drops_0 {X : CX} {Ω : OM} (hX : CF X Ω RX12 cX12_drops 2 none rm_X12_drops) (hO : OKO Ω) (hΩ : oSH Ω = SHM)    (x1 : Int32)  (σ : MS)  : GE X Ω 2 0 0 (emWV) 0 0 0 [(0, .ref 0), (1, .int x1)] [] σ (b_X12_drops_0  x1 σ) := by
  unfold b_X12_drops_0
  refine g_aload_n hX (dc_X12_drops 0 rfl) rfl 0 rfl ?_
  refine g_getF (q := 9) hX (dc_X12_drops 1 rfl) fl_X12_34 (by decide) rfl (stS hΩ 0 rfl) rfl ?_
  refine g_iload_n hX (dc_X12_drops 2 rfl) rfl 1 rfl ?_
  refine g_iconst (w := (-1 : Int32)) hX (dc_X12_drops 3 rfl) (by decide) ?_
  refine g_chk (fun hc2 => ?_)
  refine g_iast hX (dc_X12_drops 4 rfl) (stS hΩ 9 rfl) hc2 rfl ?_
  refine g_aload_n hX (dc_X12_drops 5 rfl) rfl 0 rfl ?_
  refine g_getF (q := 1) hX (dc_X12_drops 6 rfl) fl_X12_9 (by decide) rfl (stS hΩ 0 rfl) rfl ?_
  refine g_bipush (w := (6 : Int32)) hX (dc_X12_drops 7 rfl) (by decide) ?_
  refine g_dup2 hX (dc_X12_drops 8 rfl) rfl rfl ?_
  refine g_iald (j := 6) hX (dc_X12_drops 9 rfl) (stS hΩ 1 rfl) (by decide) (by decide) ?_
  refine g_iconst (w := (1 : Int32)) hX (dc_X12_drops 10 rfl) (by decide) ?_
  refine g_iload_n hX (dc_X12_drops 11 rfl) rfl 1 rfl ?_
  refine g_ishl hX (dc_X12_drops 12 rfl) ?_
  refine g_iconst (w := (-1 : Int32)) hX (dc_X12_drops 13 rfl) (by decide) ?_
  refine g_ixor hX (dc_X12_drops 14 rfl) ?_
  refine g_iand hX (dc_X12_drops 15 rfl) ?_
  refine g_iast (j := 6) hX (dc_X12_drops 16 rfl) (stS hΩ 1 rfl) (by decide) (by decide) ?_
  exact g_vret hX (dc_X12_drops 17 rfl) rfl (Nat.le_refl _) (Nat.le_refl _)
def f_X12_drops (x1 : Int32) (σ : MS) : Option (MS) := b_X12_drops_0  x1 σ
theorem con_X12_drops {Ω : OM} (hO : OKO Ω) (hΩ : oSH Ω = SHM) (x1 : Int32) (σ : MS)  : Con Ω yX12_drops cX12_drops 2 none rm_X12_drops (emWV) [.ref 0, .int x1] σ (f_X12_drops x1 σ) :=
  con_of hO (by decide +kernel) (Nat.le_of_ble_eq_true rfl) rfl (fun X hX _ => c_X12_drops_0 hX hO hΩ   x1 σ )
def it_X12_into : List (Nat × Instr × Nat × Nat) := [(0, .aload_n 0, 1, 1), (1, .getfield 9, 3, 4), (4, .iconst 1, 1, 5), (5, .iaload, 1, 6), (6, .iload_n 1, 1, 7), (7, .iadd, 1, 8), (8, .ldc 243, 2, 10), (10, .if_icmp .le 8, 3, 13), (13, .ldc 243, 2, 15), (15, .goto 11, 3, 18), (18, .aload_n 0, 1, 19), (19, .getfield 9, 3, 22), (22, .iconst 1, 1, 23), (23, .iaload, 1, 24), (24, .iload_n 1, 1, 25), (25, .iadd, 1, 26), (26, .ireturn, 1, 27)]
theorem id_X12_into : ∀ q ∈ it_X12_into, decode cX12_into q.1 = .ok (q.2.1, q.2.2.1) ∧ q.1 + q.2.2.1 = q.2.2.2 := by decide +kernel
theorem dc_X12_into {pc : Nat} {i : Instr} {n pc' : Nat} (j : Nat) (h : it_X12_into[j]? = some (pc, i, n, pc')) : Dc cX12_into pc i n pc' := dc_of id_X12_into j h
abbrev rm_X12_into : Room := { frames := 0, cells := 0, slots := 0, locals := 0 }
def b_X12_into_26    (s0 : Int32) (σ : MS) : Option (Int32) := some s0
set_option maxHeartbeats 4000000 in
set_option maxRecDepth 20000 in
theorem c_X12_into_26 {X : CX} {Ω : OM} (hX : CF X Ω RX12 cX12_into 2 (some .int) rm_X12_into) (hO : OKO Ω) (hΩ : oSH Ω = SHM)   (σ : MS)   (s0 : Int32)   : GE X Ω 2 0 0 (emPI σ) 0 0 26 [] [.int s0] σ (b_X12_into_26  s0 σ) := by
  unfold b_X12_into_26
  exact g_iret hX (dc_X12_into 16 rfl) rfl rfl (Nat.le_refl _) (Nat.le_refl _)
def b_X12_into_0   (x1 : Int32)  (σ : MS) : Option (Int32) := (if ((sI σ 1 1) + x1) ≤ (99999 : Int32) then (b_X12_into_26 (((sI σ 1 1) + x1)) σ) else (b_X12_into_26 ((99999 : Int32)) σ))
set_option maxHeartbeats 4000000 in
set_option maxRecDepth 20000 in
theorem c_X12_into_0 {X : CX} {Ω : OM} (hX : CF X Ω RX12 cX12_into 2 (some .int) rm_X12_into) (hO : OKO Ω) (hΩ : oSH Ω = SHM)   (σ : MS)  (x1 : Int32)    : GE X Ω 2 0 0 (emPI σ) 0 0 0 [(0, .ref 0), (1, .int x1)] [] σ (b_X12_into_0  x1 σ) := by
  unfold b_X12_into_0
  refine g_aload_n hX (dc_X12_into 0 rfl) rfl 0 rfl ?_
  refine g_getF (q := 1) hX (dc_X12_into 1 rfl) fl_X12_9 (by decide) rfl (stS hΩ 0 rfl) rfl ?_
  refine g_iconst (w := (1 : Int32)) hX (dc_X12_into 2 rfl) (by decide) ?_
  refine g_iald (j := 1) hX (dc_X12_into 3 rfl) (stS hΩ 1 rfl) (by decide) (by decide) ?_
  refine g_iload_n hX (dc_X12_into 4 rfl) rfl 1 rfl ?_
  refine g_iadd hX (dc_X12_into 5 rfl) ?_
  refine g_ldc hX (dc_X12_into 6 rfl) wk_X12_243 ?_
  refine g_icmp_le (tgt := 18) hX (dc_X12_into 7 rfl) (by decide) (fun h2 => ?_) (fun h2 => ?_)
  · refine g_aload_n hX (dc_X12_into 10 rfl) rfl 0 rfl ?_
    refine g_getF (q := 1) hX (dc_X12_into 11 rfl) fl_X12_9 (by decide) rfl (stS hΩ 0 rfl) rfl ?_
    refine g_iconst (w := (1 : Int32)) hX (dc_X12_into 12 rfl) (by decide) ?_
    refine g_iald (j := 1) hX (dc_X12_into 13 rfl) (stS hΩ 1 rfl) (by decide) (by decide) ?_
    refine g_iload_n hX (dc_X12_into 14 rfl) rfl 1 rfl ?_
    refine g_iadd hX (dc_X12_into 15 rfl) ?_
    exact g_sub [] rfl (c_X12_into_26 hX hO hΩ σ (((sI σ 1 1) + x1)))
  · refine g_ldc hX (dc_X12_into 8 rfl) wk_X12_243 ?_
    refine g_goto (tgt := 26) hX (dc_X12_into 9 rfl) (by decide) ?_
    exact g_sub [] rfl (c_X12_into_26 hX hO hΩ σ ((99999 : Int32)))
def f_X12_into (x1 : Int32) (σ : MS) : Option (Int32) := b_X12_into_0  x1 σ
theorem con_X12_into {Ω : OM} (hO : OKO Ω) (hΩ : oSH Ω = SHM) (x1 : Int32) (σ : MS)  : Con Ω yX12_into cX12_into 2 (some .int) rm_X12_into (emPI σ) [.ref 0, .int x1] σ (f_X12_into x1 σ) :=
  con_of hO (by decide +kernel) (Nat.le_of_ble_eq_true rfl) rfl (fun X hX _ => c_X12_into_0 hX hO hΩ   σ x1)
def it_X12_earns : List (Nat × Instr × Nat × Nat) := [(0, .aload_n 0, 1, 1), (1, .getfield 34, 3, 4), (4, .iload_n 1, 1, 5), (5, .iaload, 1, 6), (6, .istore_n 2, 1, 7), (7, .aload_n 0, 1, 8), (8, .getfield 19, 3, 11), (11, .iload_n 2, 1, 12), (12, .iaload, 1, 13), (13, .aload_n 0, 1, 14), (14, .getfield 16, 3, 17), (17, .aload_n 0, 1, 18), (18, .getfield 31, 3, 21), (21, .iload_n 1, 1, 22), (22, .iaload, 1, 23), (23, .iaload, 1, 24), (24, .iadd, 1, 25), (25, .istore_n 3, 1, 26), (26, .aload_n 0, 1, 27), (27, .getfield 19, 3, 30), (30, .iload_n 2, 1, 31), (31, .iload_n 3, 1, 32), (32, .sipush 9999, 3, 35), (35, .if_icmp .le 9, 3, 38), (38, .sipush 9999, 3, 41), (41, .goto 4, 3, 44), (44, .iload_n 3, 1, 45), (45, .iastore, 1, 46), (46, .return_, 1, 47)]
theorem id_X12_earns : ∀ q ∈ it_X12_earns, decode cX12_earns q.1 = .ok (q.2.1, q.2.2.1) ∧ q.1 + q.2.2.1 = q.2.2.2 := by decide +kernel
theorem dc_X12_earns {pc : Nat} {i : Instr} {n pc' : Nat} (j : Nat) (h : it_X12_earns[j]? = some (pc, i, n, pc')) : Dc cX12_earns pc i n pc' := dc_of id_X12_earns j h
abbrev rm_X12_earns : Room := { frames := 0, cells := 0, slots := 0, locals := 0 }
def b_X12_earns_45    (s0 : Int32) (s1 : Int32) (σ : MS) : Option (MS) := chk (inb s1 4) (some ((wI σ 4 (ix s1) s0)))
set_option maxHeartbeats 4000000 in
set_option maxRecDepth 20000 in
theorem c_X12_earns_45 {X : CX} {Ω : OM} (hX : CF X Ω RX12 cX12_earns 4 none rm_X12_earns) (hO : OKO Ω) (hΩ : oSH Ω = SHM)     (s0 : Int32) (s1 : Int32) (σ : MS)  : GE X Ω 4 0 0 (emWV) 0 0 45 [] [.int s0, .int s1, .ref 4] σ (b_X12_earns_45  s0 s1 σ) := by
  unfold b_X12_earns_45
  refine g_chk (fun hc7 => ?_)
  refine g_iast hX (dc_X12_earns 27 rfl) (stS hΩ 4 rfl) hc7 rfl ?_
  exact g_vret hX (dc_X12_earns 28 rfl) rfl (Nat.le_refl _) (Nat.le_refl _)
def b_X12_earns_0   (x1 : Int32)  (σ : MS) : Option (MS) := chk (inb x1 6) (chk (inb (sI σ 9 (ix x1)) 4) (chk (inb x1 6) (chk (inb (sI σ 8 (ix x1)) 5) ((if ((sI σ 4 (ix (sI σ 9 (ix x1)))) + (sI σ 3 (ix (sI σ 8 (ix x1))))) ≤ (9999 : Int32) then (b_X12_earns_45 (((sI σ 4 (ix (sI σ 9 (ix x1)))) + (sI σ 3 (ix (sI σ 8 (ix x1)))))) ((sI σ 9 (ix x1))) σ) else (b_X12_earns_45 ((9999 : Int32)) ((sI σ 9 (ix x1))) σ))))))
set_option maxHeartbeats 4000000 in
set_option maxRecDepth 20000 in
theorem c_X12_earns_0 {X : CX} {Ω : OM} (hX : CF X Ω RX12 cX12_earns 4 none rm_X12_earns) (hO : OKO Ω) (hΩ : oSH Ω = SHM)    (x1 : Int32)  (σ : MS)  : GE X Ω 4 0 0 (emWV) 0 0 0 [(0, .ref 0), (1, .int x1)] [] σ (b_X12_earns_0  x1 σ) := by
  unfold b_X12_earns_0
  refine g_aload_n hX (dc_X12_earns 0 rfl) rfl 0 rfl ?_
  refine g_getF (q := 9) hX (dc_X12_earns 1 rfl) fl_X12_34 (by decide) rfl (stS hΩ 0 rfl) rfl ?_
  refine g_iload_n hX (dc_X12_earns 2 rfl) rfl 1 rfl ?_
  refine g_chk (fun hc8 => ?_)
  refine g_iald hX (dc_X12_earns 3 rfl) (stS hΩ 9 rfl) hc8 rfl ?_
  refine g_istore_n (L' := [(2, .int (sI σ 9 (ix x1))), (0, .ref 0), (1, .int x1)]) hX (dc_X12_earns 4 rfl) rfl (by decide) rfl ?_
  refine g_aload_n hX (dc_X12_earns 5 rfl) rfl 1 rfl ?_
  refine g_getF (q := 4) hX (dc_X12_earns 6 rfl) fl_X12_19 (by decide) rfl (stS hΩ 0 rfl) rfl ?_
  refine g_iload_n hX (dc_X12_earns 7 rfl) rfl 0 rfl ?_
  refine g_chk (fun hc9 => ?_)
  refine g_iald hX (dc_X12_earns 8 rfl) (stS hΩ 4 rfl) hc9 rfl ?_
  refine g_aload_n hX (dc_X12_earns 9 rfl) rfl 1 rfl ?_
  refine g_getF (q := 3) hX (dc_X12_earns 10 rfl) fl_X12_16 (by decide) rfl (stS hΩ 0 rfl) rfl ?_
  refine g_aload_n hX (dc_X12_earns 11 rfl) rfl 1 rfl ?_
  refine g_getF (q := 8) hX (dc_X12_earns 12 rfl) fl_X12_31 (by decide) rfl (stS hΩ 0 rfl) rfl ?_
  refine g_iload_n hX (dc_X12_earns 13 rfl) rfl 2 rfl ?_
  refine g_chk (fun hc10 => ?_)
  refine g_iald hX (dc_X12_earns 14 rfl) (stS hΩ 8 rfl) hc10 rfl ?_
  refine g_chk (fun hc11 => ?_)
  refine g_iald hX (dc_X12_earns 15 rfl) (stS hΩ 3 rfl) hc11 rfl ?_
  refine g_iadd hX (dc_X12_earns 16 rfl) ?_
  refine g_istore_n (L' := [(3, .int ((sI σ 4 (ix (sI σ 9 (ix x1)))) + (sI σ 3 (ix (sI σ 8 (ix x1)))))), (2, .int (sI σ 9 (ix x1))), (0, .ref 0), (1, .int x1)]) hX (dc_X12_earns 17 rfl) rfl (by decide) rfl ?_
  refine g_aload_n hX (dc_X12_earns 18 rfl) rfl 2 rfl ?_
  refine g_getF (q := 4) hX (dc_X12_earns 19 rfl) fl_X12_19 (by decide) rfl (stS hΩ 0 rfl) rfl ?_
  refine g_iload_n hX (dc_X12_earns 20 rfl) rfl 1 rfl ?_
  refine g_iload_n hX (dc_X12_earns 21 rfl) rfl 0 rfl ?_
  refine g_sipush (w := (9999 : Int32)) hX (dc_X12_earns 22 rfl) (by decide) ?_
  refine g_icmp_le (tgt := 44) hX (dc_X12_earns 23 rfl) (by decide) (fun h12 => ?_) (fun h12 => ?_)
  · refine g_iload_n hX (dc_X12_earns 26 rfl) rfl 0 rfl ?_
    exact g_sub [] rfl (c_X12_earns_45 hX hO hΩ (((sI σ 4 (ix (sI σ 9 (ix x1)))) + (sI σ 3 (ix (sI σ 8 (ix x1)))))) ((sI σ 9 (ix x1))) σ)
  · refine g_sipush (w := (9999 : Int32)) hX (dc_X12_earns 24 rfl) (by decide) ?_
    refine g_goto (tgt := 45) hX (dc_X12_earns 25 rfl) (by decide) ?_
    exact g_sub [] rfl (c_X12_earns_45 hX hO hΩ ((9999 : Int32)) ((sI σ 9 (ix x1))) σ)
def f_X12_earns (x1 : Int32) (σ : MS) : Option (MS) := b_X12_earns_0  x1 σ
theorem con_X12_earns {Ω : OM} (hO : OKO Ω) (hΩ : oSH Ω = SHM) (x1 : Int32) (σ : MS)  : Con Ω yX12_earns cX12_earns 4 none rm_X12_earns (emWV) [.ref 0, .int x1] σ (f_X12_earns x1 σ) :=
  con_of hO (by decide +kernel) (Nat.le_of_ble_eq_true rfl) rfl (fun X hX _ => c_X12_earns_0 hX hO hΩ   x1 σ )
def it_X12_fines : List (Nat × Instr × Nat × Nat) := [(0, .aload_n 0, 1, 1), (1, .getfield 34, 3, 4), (4, .iload_n 1, 1, 5), (5, .iaload, 1, 6), (6, .istore_n 2, 1, 7), (7, .aload_n 0, 1, 8), (8, .getfield 19, 3, 11), (11, .iload_n 2, 1, 12), (12, .iaload, 1, 13), (13, .aload_n 0, 1, 14), (14, .getfield 9, 3, 17), (17, .iconst 0, 1, 18), (18, .iaload, 1, 19), (19, .if_icmp .ge 12, 3, 22), (22, .aload_n 0, 1, 23), (23, .getfield 19, 3, 26), (26, .iload_n 2, 1, 27), (27, .iaload, 1, 28), (28, .goto 9, 3, 31), (31, .aload_n 0, 1, 32), (32, .getfield 9, 3, 35), (35, .iconst 0, 1, 36), (36, .iaload, 1, 37), (37, .istore_n 3, 1, 38), (38, .aload_n 0, 1, 39), (39, .getfield 19, 3, 42), (42, .iload_n 2, 1, 43), (43, .dup2, 1, 44), (44, .iaload, 1, 45), (45, .iload_n 3, 1, 46), (46, .isub, 1, 47), (47, .iastore, 1, 48), (48, .aload_n 0, 1, 49), (49, .getfield 9, 3, 52), (52, .iconst 1, 1, 53), (53, .aload_n 0, 1, 54), (54, .iload_n 3, 1, 55), (55, .invokevirtual 413, 3, 58), (58, .iastore, 1, 59), (59, .aload_n 0, 1, 60), (60, .getfield 9, 3, 63), (63, .bipush 6, 2, 65), (65, .dup2, 1, 66), (66, .iaload, 1, 67), (67, .iconst 1, 1, 68), (68, .iload_n 1, 1, 69), (69, .ishl, 1, 70), (70, .iconst (-1), 1, 71), (71, .ixor, 1, 72), (72, .iand, 1, 73), (73, .iastore, 1, 74), (74, .return_, 1, 75)]
theorem id_X12_fines : ∀ q ∈ it_X12_fines, decode cX12_fines q.1 = .ok (q.2.1, q.2.2.1) ∧ q.1 + q.2.2.1 = q.2.2.2 := by decide +kernel
theorem dc_X12_fines {pc : Nat} {i : Instr} {n pc' : Nat} (j : Nat) (h : it_X12_fines[j]? = some (pc, i, n, pc')) : Dc cX12_fines pc i n pc' := dc_of id_X12_fines j h
abbrev rm_X12_fines : Room := { frames := 1, cells := 0, slots := 0, locals := 21 }
def b_X12_fines_74     (σ : MS) : Option (MS) := some (σ)
set_option maxHeartbeats 4000000 in
set_option maxRecDepth 20000 in
theorem c_X12_fines_74 {X : CX} {Ω : OM} (hX : CF X Ω RX12 cX12_fines 4 none rm_X12_fines) (hO : OKO Ω) (hΩ : oSH Ω = SHM)      (σ : MS)  : GE X Ω 4 0 0 (emWV) 0 0 74 [] [] σ (b_X12_fines_74  σ) := by
  unfold b_X12_fines_74
  exact g_vret hX (dc_X12_fines 51 rfl) rfl (Nat.le_refl _) (Nat.le_refl _)
def b_X12_fines_37    (y1 : Int32) (y2 : Int32) (s0 : Int32) (σ : MS) : Option (MS) := chk (inb y2 4) (chk (inb y2 4) ((f_X12_into s0 (wI σ 4 (ix y2) ((sI σ 4 (ix y2)) - s0))).bind (fun r10 => (b_X12_fines_74 (wI (wI (wI σ 4 (ix y2) ((sI σ 4 (ix y2)) - s0)) 1 1 r10) 1 6 ((sI (wI (wI σ 4 (ix y2) ((sI σ 4 (ix y2)) - s0)) 1 1 r10) 1 6) &&& (((1 : Int32) <<< (y1 &&& 31)) ^^^ (-1 : Int32))))))))
set_option maxHeartbeats 4000000 in
set_option maxRecDepth 20000 in
theorem c_X12_fines_37 {X : CX} {Ω : OM} (hX : CF X Ω RX12 cX12_fines 4 none rm_X12_fines) (hO : OKO Ω) (hΩ : oSH Ω = SHM)     (y1 : Int32) (y2 : Int32) (s0 : Int32) (σ : MS)  : GE X Ω 4 0 0 (emWV) 0 0 37 [(0, .ref 0), (1, .int y1), (2, .int y2)] [.int s0] σ (b_X12_fines_37  y1 y2 s0 σ) := by
  unfold b_X12_fines_37
  refine g_istore_n (L' := [(3, .int s0), (0, .ref 0), (1, .int y1), (2, .int y2)]) hX (dc_X12_fines 23 rfl) rfl (by decide) rfl ?_
  refine g_aload_n hX (dc_X12_fines 24 rfl) rfl 1 rfl ?_
  refine g_getF (q := 4) hX (dc_X12_fines 25 rfl) fl_X12_19 (by decide) rfl (stS hΩ 0 rfl) rfl ?_
  refine g_iload_n hX (dc_X12_fines 26 rfl) rfl 3 rfl ?_
  refine g_dup2 hX (dc_X12_fines 27 rfl) rfl rfl ?_
  refine g_chk (fun hc8 => ?_)
  refine g_iald hX (dc_X12_fines 28 rfl) (stS hΩ 4 rfl) hc8 rfl ?_
  refine g_iload_n hX (dc_X12_fines 29 rfl) rfl 0 rfl ?_
  refine g_isub hX (dc_X12_fines 30 rfl) ?_
  refine g_chk (fun hc9 => ?_)
  refine g_iast hX (dc_X12_fines 31 rfl) (stS hΩ 4 rfl) hc9 rfl ?_
  refine g_aload_n hX (dc_X12_fines 32 rfl) rfl 1 rfl ?_
  refine g_getF (q := 1) hX (dc_X12_fines 33 rfl) fl_X12_9 (by decide) rfl (stS hΩ 0 rfl) rfl ?_
  refine g_iconst (w := (1 : Int32)) hX (dc_X12_fines 34 rfl) (by decide) ?_
  refine g_aload_n hX (dc_X12_fines 35 rfl) rfl 1 rfl ?_
  refine g_iload_n hX (dc_X12_fines 36 rfl) rfl 0 rfl ?_
  refine gV_PI (As := [.int s0]) (st := [.int (1 : Int32), .ref 1]) hX (dc_X12_fines 37 rfl) ml_X12_413 (con_X12_into hO hΩ s0 (wI σ 4 (ix y2) ((sI σ 4 (ix y2)) - s0))) (stS hΩ 0 rfl) rfl rfl ⟨by decide, by decide⟩ ⟨rfl, rfl⟩ ⟨Nat.zero_le _, Nat.zero_le _⟩ (Nat.le_of_ble_eq_true rfl) (fun r10 _ => ?_)
  refine g_iast (j := 1) hX (dc_X12_fines 38 rfl) (stS hΩ 1 rfl) (by decide) (by decide) ?_
  refine g_aload_n hX (dc_X12_fines 39 rfl) rfl 1 rfl ?_
  refine g_getF (q := 1) hX (dc_X12_fines 40 rfl) fl_X12_9 (by decide) rfl (stS hΩ 0 rfl) rfl ?_
  refine g_bipush (w := (6 : Int32)) hX (dc_X12_fines 41 rfl) (by decide) ?_
  refine g_dup2 hX (dc_X12_fines 42 rfl) rfl rfl ?_
  refine g_iald (j := 6) hX (dc_X12_fines 43 rfl) (stS hΩ 1 rfl) (by decide) (by decide) ?_
  refine g_iconst (w := (1 : Int32)) hX (dc_X12_fines 44 rfl) (by decide) ?_
  refine g_iload_n hX (dc_X12_fines 45 rfl) rfl 2 rfl ?_
  refine g_ishl hX (dc_X12_fines 46 rfl) ?_
  refine g_iconst (w := (-1 : Int32)) hX (dc_X12_fines 47 rfl) (by decide) ?_
  refine g_ixor hX (dc_X12_fines 48 rfl) ?_
  refine g_iand hX (dc_X12_fines 49 rfl) ?_
  refine g_iast (j := 6) hX (dc_X12_fines 50 rfl) (stS hΩ 1 rfl) (by decide) (by decide) ?_
  exact g_sub [] rfl (c_X12_fines_74 hX hO hΩ (wI (wI (wI σ 4 (ix y2) ((sI σ 4 (ix y2)) - s0)) 1 1 r10) 1 6 ((sI (wI (wI σ 4 (ix y2) ((sI σ 4 (ix y2)) - s0)) 1 1 r10) 1 6) &&& (((1 : Int32) <<< (y1 &&& 31)) ^^^ (-1 : Int32)))))
def b_X12_fines_0   (x1 : Int32)  (σ : MS) : Option (MS) := chk (inb x1 6) (chk (inb (sI σ 9 (ix x1)) 4) ((if (sI σ 1 0) ≤ (sI σ 4 (ix (sI σ 9 (ix x1)))) then (b_X12_fines_37 (x1) ((sI σ 9 (ix x1))) ((sI σ 1 0)) σ) else chk (inb (sI σ 9 (ix x1)) 4) ((b_X12_fines_37 (x1) ((sI σ 9 (ix x1))) ((sI σ 4 (ix (sI σ 9 (ix x1))))) σ)))))
set_option maxHeartbeats 4000000 in
set_option maxRecDepth 20000 in
theorem c_X12_fines_0 {X : CX} {Ω : OM} (hX : CF X Ω RX12 cX12_fines 4 none rm_X12_fines) (hO : OKO Ω) (hΩ : oSH Ω = SHM)    (x1 : Int32)  (σ : MS)  : GE X Ω 4 0 0 (emWV) 0 0 0 [(0, .ref 0), (1, .int x1)] [] σ (b_X12_fines_0  x1 σ) := by
  unfold b_X12_fines_0
  refine g_aload_n hX (dc_X12_fines 0 rfl) rfl 0 rfl ?_
  refine g_getF (q := 9) hX (dc_X12_fines 1 rfl) fl_X12_34 (by decide) rfl (stS hΩ 0 rfl) rfl ?_
  refine g_iload_n hX (dc_X12_fines 2 rfl) rfl 1 rfl ?_
  refine g_chk (fun hc11 => ?_)
  refine g_iald hX (dc_X12_fines 3 rfl) (stS hΩ 9 rfl) hc11 rfl ?_
  refine g_istore_n (L' := [(2, .int (sI σ 9 (ix x1))), (0, .ref 0), (1, .int x1)]) hX (dc_X12_fines 4 rfl) rfl (by decide) rfl ?_
  refine g_aload_n hX (dc_X12_fines 5 rfl) rfl 1 rfl ?_
  refine g_getF (q := 4) hX (dc_X12_fines 6 rfl) fl_X12_19 (by decide) rfl (stS hΩ 0 rfl) rfl ?_
  refine g_iload_n hX (dc_X12_fines 7 rfl) rfl 0 rfl ?_
  refine g_chk (fun hc12 => ?_)
  refine g_iald hX (dc_X12_fines 8 rfl) (stS hΩ 4 rfl) hc12 rfl ?_
  refine g_aload_n hX (dc_X12_fines 9 rfl) rfl 1 rfl ?_
  refine g_getF (q := 1) hX (dc_X12_fines 10 rfl) fl_X12_9 (by decide) rfl (stS hΩ 0 rfl) rfl ?_
  refine g_iconst (w := (0 : Int32)) hX (dc_X12_fines 11 rfl) (by decide) ?_
  refine g_iald (j := 0) hX (dc_X12_fines 12 rfl) (stS hΩ 1 rfl) (by decide) (by decide) ?_
  refine g_icmp_ge (tgt := 31) hX (dc_X12_fines 13 rfl) (by decide) (fun h13 => ?_) (fun h13 => ?_)
  · refine g_aload_n hX (dc_X12_fines 19 rfl) rfl 1 rfl ?_
    refine g_getF (q := 1) hX (dc_X12_fines 20 rfl) fl_X12_9 (by decide) rfl (stS hΩ 0 rfl) rfl ?_
    refine g_iconst (w := (0 : Int32)) hX (dc_X12_fines 21 rfl) (by decide) ?_
    refine g_iald (j := 0) hX (dc_X12_fines 22 rfl) (stS hΩ 1 rfl) (by decide) (by decide) ?_
    exact g_sub [1, 2, 0] rfl (c_X12_fines_37 hX hO hΩ (x1) ((sI σ 9 (ix x1))) ((sI σ 1 0)) σ)
  · refine g_aload_n hX (dc_X12_fines 14 rfl) rfl 1 rfl ?_
    refine g_getF (q := 4) hX (dc_X12_fines 15 rfl) fl_X12_19 (by decide) rfl (stS hΩ 0 rfl) rfl ?_
    refine g_iload_n hX (dc_X12_fines 16 rfl) rfl 0 rfl ?_
    refine g_chk (fun hc14 => ?_)
    refine g_iald hX (dc_X12_fines 17 rfl) (stS hΩ 4 rfl) hc14 rfl ?_
    refine g_goto (tgt := 37) hX (dc_X12_fines 18 rfl) (by decide) ?_
    exact g_sub [1, 2, 0] rfl (c_X12_fines_37 hX hO hΩ (x1) ((sI σ 9 (ix x1))) ((sI σ 4 (ix (sI σ 9 (ix x1))))) σ)
def f_X12_fines (x1 : Int32) (σ : MS) : Option (MS) := b_X12_fines_0  x1 σ
theorem con_X12_fines {Ω : OM} (hO : OKO Ω) (hΩ : oSH Ω = SHM) (x1 : Int32) (σ : MS)  : Con Ω yX12_fines cX12_fines 4 none rm_X12_fines (emWV) [.ref 0, .int x1] σ (f_X12_fines x1 σ) :=
  con_of hO (by decide +kernel) (Nat.le_of_ble_eq_true rfl) rfl (fun X hX _ => c_X12_fines_0 hX hO hΩ   x1 σ )
def it_X12_goes : List (Nat × Instr × Nat × Nat) := [(0, .iconst 0, 1, 1), (1, .istore_n 1, 1, 2), (2, .iconst 0, 1, 3), (3, .istore_n 2, 1, 4), (4, .iload_n 2, 1, 5), (5, .aload_n 0, 1, 6), (6, .getfield 9, 3, 9), (9, .iconst 4, 1, 10), (10, .iaload, 1, 11), (11, .if_icmp .ge 77, 3, 14), (14, .aload_n 0, 1, 15), (15, .getfield 34, 3, 18), (18, .iload_n 2, 1, 19), (19, .iaload, 1, 20), (20, .iconst (-1), 1, 21), (21, .if_icmp .eq 61, 3, 24), (24, .aload_n 0, 1, 25), (25, .aload_n 0, 1, 26), (26, .getfield 34, 3, 29), (29, .iload_n 2, 1, 30), (30, .iaload, 1, 31), (31, .aload_n 0, 1, 32), (32, .getfield 9, 3, 35), (35, .iconst 5, 1, 36), (36, .iaload, 1, 37), (37, .invokevirtual 381, 3, 40), (40, .ifCond .eq 42, 3, 43), (43, .aload_n 0, 1, 44), (44, .iload_n 2, 1, 45), (45, .invokevirtual 416, 3, 48), (48, .istore_n 3, 1, 49), (49, .iload_n 3, 1, 50), (50, .iconst (-1), 1, 51), (51, .if_icmp .ne 24, 3, 54), (54, .aload_n 0, 1, 55), (55, .iload_n 2, 1, 56), (56, .invokevirtual 419, 3, 59), (59, .aload_n 0, 1, 60), (60, .getfield 37, 3, 63), (63, .iload_n 2, 1, 64), (64, .dup2, 1, 65), (65, .iaload, 1, 66), (66, .iconst 1, 1, 67), (67, .iadd, 1, 68), (68, .iastore, 1, 69), (69, .iinc 1 1, 3, 72), (72, .goto 10, 3, 75), (75, .aload_n 0, 1, 76), (76, .getfield 34, 3, 79), (79, .iload_n 2, 1, 80), (80, .iload_n 3, 1, 81), (81, .iastore, 1, 82), (82, .iinc 2 1, 3, 85), (85, .goto (-81), 3, 88), (88, .iconst 0, 1, 89), (89, .istore_n 2, 1, 90), (90, .iload_n 2, 1, 91), (91, .aload_n 0, 1, 92), (92, .getfield 9, 3, 95), (95, .iconst 4, 1, 96), (96, .iaload, 1, 97), (97, .if_icmp .ge 24, 3, 100), (100, .aload_n 0, 1, 101), (101, .getfield 34, 3, 104), (104, .iload_n 2, 1, 105), (105, .iaload, 1, 106), (106, .iconst (-1), 1, 107), (107, .if_icmp .eq 8, 3, 110), (110, .aload_n 0, 1, 111), (111, .iload_n 2, 1, 112), (112, .invokevirtual 422, 3, 115), (115, .iinc 2 1, 3, 118), (118, .goto (-28), 3, 121), (121, .iconst 0, 1, 122), (122, .istore_n 2, 1, 123), (123, .iload_n 2, 1, 124), (124, .aload_n 0, 1, 125), (125, .getfield 9, 3, 128), (128, .iconst 4, 1, 129), (129, .iaload, 1, 130), (130, .if_icmp .ge 40, 3, 133), (133, .aload_n 0, 1, 134), (134, .getfield 9, 3, 137), (137, .iconst 5, 1, 138), (138, .iaload, 1, 139), (139, .bipush 24, 2, 141), (141, .irem, 1, 142), (142, .ifCond .ne 28, 3, 145), (145, .aload_n 0, 1, 146), (146, .getfield 9, 3, 149), (149, .bipush 6, 2, 151), (151, .iaload, 1, 152), (152, .iload_n 2, 1, 153), (153, .invokestatic 396, 3, 156), (156, .ifCond .eq 8, 3, 159), (159, .aload_n 0, 1, 160), (160, .iload_n 2, 1, 161), (161, .invokevirtual 425, 3, 164), (164, .iinc 2 1, 3, 167), (167, .goto (-44), 3, 170), (170, .aload_n 0, 1, 171), (171, .getfield 9, 3, 174), (174, .iconst 5, 1, 175), (175, .dup2, 1, 176), (176, .iaload, 1, 177), (177, .iconst 1, 1, 178), (178, .iadd, 1, 179), (179, .iastore, 1, 180), (180, .iload_n 1, 1, 181), (181, .ireturn, 1, 182)]
theorem id_X12_goes : ∀ q ∈ it_X12_goes, decode cX12_goes q.1 = .ok (q.2.1, q.2.2.1) ∧ q.1 + q.2.2.1 = q.2.2.2 := by decide +kernel
theorem dc_X12_goes {pc : Nat} {i : Instr} {n pc' : Nat} (j : Nat) (h : it_X12_goes[j]? = some (pc, i, n, pc')) : Dc cX12_goes pc i n pc' := dc_of id_X12_goes j h
abbrev rm_X12_goes : Room := { frames := 6, cells := 0, slots := 0, locals := 142 }
def b_X12_goes_170    (y1 : Int32) (σ : MS) : Option (Int32 × MS) := some (y1, (wI σ 1 5 ((sI σ 1 5) + (1 : Int32))))
set_option maxHeartbeats 4000000 in
set_option maxRecDepth 20000 in
theorem c_X12_goes_170 {X : CX} {Ω : OM} (hX : CF X Ω RX12 cX12_goes 4 (some .int) rm_X12_goes) (hO : OKO Ω) (hΩ : oSH Ω = SHM)     (y1 : Int32) (σ : MS)  : GE X Ω 4 0 0 (emWI) 0 0 170 [(0, .ref 0), (1, .int y1)] [] σ (b_X12_goes_170  y1 σ) := by
  unfold b_X12_goes_170
  refine g_aload_n hX (dc_X12_goes 100 rfl) rfl 0 rfl ?_
  refine g_getF (q := 1) hX (dc_X12_goes 101 rfl) fl_X12_9 (by decide) rfl (stS hΩ 0 rfl) rfl ?_
  refine g_iconst (w := (5 : Int32)) hX (dc_X12_goes 102 rfl) (by decide) ?_
  refine g_dup2 hX (dc_X12_goes 103 rfl) rfl rfl ?_
  refine g_iald (j := 5) hX (dc_X12_goes 104 rfl) (stS hΩ 1 rfl) (by decide) (by decide) ?_
  refine g_iconst (w := (1 : Int32)) hX (dc_X12_goes 105 rfl) (by decide) ?_
  refine g_iadd hX (dc_X12_goes 106 rfl) ?_
  refine g_iast (j := 5) hX (dc_X12_goes 107 rfl) (stS hΩ 1 rfl) (by decide) (by decide) ?_
  refine g_iload_n hX (dc_X12_goes 108 rfl) rfl 1 rfl ?_
  exact g_iret hX (dc_X12_goes 109 rfl) rfl rfl (Nat.le_refl _) (Nat.le_refl _)
def b_X12_goes_164  (k123 : Int32 → Int32 → MS → Option (Int32 × MS))  (y1 : Int32) (y2 : Int32) (σ : MS) : Option (Int32 × MS) := (k123 (y1) ((y2 + (1 : Int32))) σ)
set_option maxHeartbeats 4000000 in
set_option maxRecDepth 20000 in
theorem c_X12_goes_164 {X : CX} {Ω : OM} (hX : CF X Ω RX12 cX12_goes 4 (some .int) rm_X12_goes) (hO : OKO Ω) (hΩ : oSH Ω = SHM)   (k123 : Int32 → Int32 → MS → Option (Int32 × MS)) (hk123 : ∀ (y1 : Int32) (y2 : Int32) (σ : MS) , GE X Ω 4 0 0 (emWI) 0 0 123 [(0, .ref 0), (1, .int y1), (2, .int y2)] [] σ (k123 y1 y2 σ))  (y1 : Int32) (y2 : Int32) (σ : MS)  : GE X Ω 4 0 0 (emWI) 0 0 164 [(0, .ref 0), (1, .int y1), (2, .int y2)] [] σ (b_X12_goes_164  k123 y1 y2 σ) := by
  unfold b_X12_goes_164
  refine g_iinc (w := (y2 + (1 : Int32))) (L' := [(2, .int (y2 + (1 : Int32))), (0, .ref 0), (1, .int y1)]) hX (dc_X12_goes 98 rfl) 2 rfl rfl (by decide) rfl ?_
  refine g_goto (tgt := 123) hX (dc_X12_goes 99 rfl) (by decide) ?_
  exact g_sub [1, 2, 0] rfl (hk123 (y1) ((y2 + (1 : Int32))) σ )
def b_X12_goes_123   : Nat → Int32 → Int32 → MS → Option (Int32 × MS)
  | 0, _, _, _ => none
  | n + 1, y1, y2, σ => (if (sI σ 1 4) ≤ y2 then (b_X12_goes_170 (y1) σ) else (if ((sI σ 1 5) - (sI σ 1 5) / (24 : Int32) * (24 : Int32)) = 0 then (f_X12_has (sI σ 1 6) y2).bind (fun r24 => (if r24 = 0 then (b_X12_goes_164 (b_X12_goes_123  n) (y1) (y2) σ) else (f_X12_fines y2 σ).bind (fun r26 => (b_X12_goes_164 (b_X12_goes_123  n) (y1) (y2) r26)))) else (b_X12_goes_170 (y1) σ)))
set_option maxHeartbeats 4000000 in
set_option maxRecDepth 20000 in
theorem c_X12_goes_123 {X : CX} {Ω : OM} (hX : CF X Ω RX12 cX12_goes 4 (some .int) rm_X12_goes) (hO : OKO Ω) (hΩ : oSH Ω = SHM)    : ∀ (n : Nat) (y1 : Int32) (y2 : Int32) (σ : MS) , GE X Ω 4 0 0 (emWI) 0 0 123 [(0, .ref 0), (1, .int y1), (2, .int y2)] [] σ (b_X12_goes_123  n y1 y2 σ)
  | 0, _, _, _ => g_none
  | n + 1, y1, y2, σ => by
    have hk123 := c_X12_goes_123 hX hO hΩ  n
    unfold b_X12_goes_123
    refine g_iload_n hX (dc_X12_goes 75 rfl) rfl 2 rfl ?_
    refine g_aload_n hX (dc_X12_goes 76 rfl) rfl 0 rfl ?_
    refine g_getF (q := 1) hX (dc_X12_goes 77 rfl) fl_X12_9 (by decide) rfl (stS hΩ 0 rfl) rfl ?_
    refine g_iconst (w := (4 : Int32)) hX (dc_X12_goes 78 rfl) (by decide) ?_
    refine g_iald (j := 4) hX (dc_X12_goes 79 rfl) (stS hΩ 1 rfl) (by decide) (by decide) ?_
    refine g_icmp_ge (tgt := 170) hX (dc_X12_goes 80 rfl) (by decide) (fun h22 => ?_) (fun h22 => ?_)
    · exact g_sub [0, 1] rfl (c_X12_goes_170 hX hO hΩ (y1) σ)
    · refine g_aload_n hX (dc_X12_goes 81 rfl) rfl 0 rfl ?_
      refine g_getF (q := 1) hX (dc_X12_goes 82 rfl) fl_X12_9 (by decide) rfl (stS hΩ 0 rfl) rfl ?_
      refine g_iconst (w := (5 : Int32)) hX (dc_X12_goes 83 rfl) (by decide) ?_
      refine g_iald (j := 5) hX (dc_X12_goes 84 rfl) (stS hΩ 1 rfl) (by decide) (by decide) ?_
      refine g_bipush (w := (24 : Int32)) hX (dc_X12_goes 85 rfl) (by decide) ?_
      refine g_irem hX (dc_X12_goes 86 rfl) (by decide) ?_
      refine g_if_ne (tgt := 170) hX (dc_X12_goes 87 rfl) (by decide) (fun h23 => ?_) (fun h23 => ?_)
      · refine g_aload_n hX (dc_X12_goes 88 rfl) rfl 0 rfl ?_
        refine g_getF (q := 1) hX (dc_X12_goes 89 rfl) fl_X12_9 (by decide) rfl (stS hΩ 0 rfl) rfl ?_
        refine g_bipush (w := (6 : Int32)) hX (dc_X12_goes 90 rfl) (by decide) ?_
        refine g_iald (j := 6) hX (dc_X12_goes 91 rfl) (stS hΩ 1 rfl) (by decide) (by decide) ?_
        refine g_iload_n hX (dc_X12_goes 92 rfl) rfl 2 rfl ?_
        refine gS_PI (As := [.int (sI σ 1 6), .int y2]) (st := []) hX (dc_X12_goes 93 rfl) ml_X12_396 (con_X12_has hO hΩ (sI σ 1 6) y2 σ) rfl rfl ⟨by decide, by decide⟩ ⟨rfl, rfl⟩ ⟨Nat.zero_le _, Nat.zero_le _⟩ (Nat.le_of_ble_eq_true rfl) (fun r24 _ => ?_)
        refine g_if_eq (tgt := 164) hX (dc_X12_goes 94 rfl) (by decide) (fun h25 => ?_) (fun h25 => ?_)
        · exact g_sub [0, 1, 2] rfl (c_X12_goes_164 hX hO hΩ _ hk123 (y1) (y2) σ)
        · refine g_aload_n hX (dc_X12_goes 95 rfl) rfl 0 rfl ?_
          refine g_iload_n hX (dc_X12_goes 96 rfl) rfl 2 rfl ?_
          refine gV_WV (As := [.int y2]) (st := []) hX (dc_X12_goes 97 rfl) ml_X12_425 (con_X12_fines hO hΩ y2 σ) (stS hΩ 0 rfl) rfl rfl ⟨by decide, by decide⟩ ⟨rfl, rfl⟩ ⟨Nat.zero_le _, Nat.zero_le _⟩ (Nat.le_of_ble_eq_true rfl) (fun r26 _ => ?_)
          exact g_sub [0, 1, 2] rfl (c_X12_goes_164 hX hO hΩ _ hk123 (y1) (y2) r26)
      · exact g_sub [0, 1] rfl (c_X12_goes_170 hX hO hΩ (y1) σ)
def b_X12_goes_115  (k90 : Int32 → Int32 → MS → Option (Int32 × MS))  (y1 : Int32) (y2 : Int32) (σ : MS) : Option (Int32 × MS) := (k90 (y1) ((y2 + (1 : Int32))) σ)
set_option maxHeartbeats 4000000 in
set_option maxRecDepth 20000 in
theorem c_X12_goes_115 {X : CX} {Ω : OM} (hX : CF X Ω RX12 cX12_goes 4 (some .int) rm_X12_goes) (hO : OKO Ω) (hΩ : oSH Ω = SHM)   (k90 : Int32 → Int32 → MS → Option (Int32 × MS)) (hk90 : ∀ (y1 : Int32) (y2 : Int32) (σ : MS) , GE X Ω 4 0 0 (emWI) 0 0 90 [(0, .ref 0), (1, .int y1), (2, .int y2)] [] σ (k90 y1 y2 σ))  (y1 : Int32) (y2 : Int32) (σ : MS)  : GE X Ω 4 0 0 (emWI) 0 0 115 [(0, .ref 0), (1, .int y1), (2, .int y2)] [] σ (b_X12_goes_115  k90 y1 y2 σ) := by
  unfold b_X12_goes_115
  refine g_iinc (w := (y2 + (1 : Int32))) (L' := [(2, .int (y2 + (1 : Int32))), (0, .ref 0), (1, .int y1)]) hX (dc_X12_goes 71 rfl) 2 rfl rfl (by decide) rfl ?_
  refine g_goto (tgt := 90) hX (dc_X12_goes 72 rfl) (by decide) ?_
  exact g_sub [1, 2, 0] rfl (hk90 (y1) ((y2 + (1 : Int32))) σ )
def b_X12_goes_90   : Nat → Int32 → Int32 → MS → Option (Int32 × MS)
  | 0, _, _, _ => none
  | n + 1, y1, y2, σ => (if (sI σ 1 4) ≤ y2 then (b_X12_goes_123 FU (y1) ((0 : Int32)) σ) else chk (inb y2 6) ((if (sI σ 9 (ix y2)) = (-1 : Int32) then (b_X12_goes_115 (b_X12_goes_90  n) (y1) (y2) σ) else (f_X12_earns y2 σ).bind (fun r30 => (b_X12_goes_115 (b_X12_goes_90  n) (y1) (y2) r30)))))
set_option maxHeartbeats 4000000 in
set_option maxRecDepth 20000 in
theorem c_X12_goes_90 {X : CX} {Ω : OM} (hX : CF X Ω RX12 cX12_goes 4 (some .int) rm_X12_goes) (hO : OKO Ω) (hΩ : oSH Ω = SHM)    : ∀ (n : Nat) (y1 : Int32) (y2 : Int32) (σ : MS) , GE X Ω 4 0 0 (emWI) 0 0 90 [(0, .ref 0), (1, .int y1), (2, .int y2)] [] σ (b_X12_goes_90  n y1 y2 σ)
  | 0, _, _, _ => g_none
  | n + 1, y1, y2, σ => by
    have hk90 := c_X12_goes_90 hX hO hΩ  n
    unfold b_X12_goes_90
    refine g_iload_n hX (dc_X12_goes 56 rfl) rfl 2 rfl ?_
    refine g_aload_n hX (dc_X12_goes 57 rfl) rfl 0 rfl ?_
    refine g_getF (q := 1) hX (dc_X12_goes 58 rfl) fl_X12_9 (by decide) rfl (stS hΩ 0 rfl) rfl ?_
    refine g_iconst (w := (4 : Int32)) hX (dc_X12_goes 59 rfl) (by decide) ?_
    refine g_iald (j := 4) hX (dc_X12_goes 60 rfl) (stS hΩ 1 rfl) (by decide) (by decide) ?_
    refine g_icmp_ge (tgt := 121) hX (dc_X12_goes 61 rfl) (by decide) (fun h27 => ?_) (fun h27 => ?_)
    · refine g_iconst (w := (0 : Int32)) hX (dc_X12_goes 73 rfl) (by decide) ?_
      refine g_istore_n (L' := [(2, .int (0 : Int32)), (0, .ref 0), (1, .int y1)]) hX (dc_X12_goes 74 rfl) rfl (by decide) rfl ?_
      exact g_sub [1, 2, 0] rfl (c_X12_goes_123 hX hO hΩ FU (y1) ((0 : Int32)) σ)
    · refine g_aload_n hX (dc_X12_goes 62 rfl) rfl 0 rfl ?_
      refine g_getF (q := 9) hX (dc_X12_goes 63 rfl) fl_X12_34 (by decide) rfl (stS hΩ 0 rfl) rfl ?_
      refine g_iload_n hX (dc_X12_goes 64 rfl) rfl 2 rfl ?_
      refine g_chk (fun hc28 => ?_)
      refine g_iald hX (dc_X12_goes 65 rfl) (stS hΩ 9 rfl) hc28 rfl ?_
      refine g_iconst (w := (-1 : Int32)) hX (dc_X12_goes 66 rfl) (by decide) ?_
      refine g_icmp_eq (tgt := 115) hX (dc_X12_goes 67 rfl) (by decide) (fun h29 => ?_) (fun h29 => ?_)
      · exact g_sub [0, 1, 2] rfl (c_X12_goes_115 hX hO hΩ _ hk90 (y1) (y2) σ)
      · refine g_aload_n hX (dc_X12_goes 68 rfl) rfl 0 rfl ?_
        refine g_iload_n hX (dc_X12_goes 69 rfl) rfl 2 rfl ?_
        refine gV_WV (As := [.int y2]) (st := []) hX (dc_X12_goes 70 rfl) ml_X12_422 (con_X12_earns hO hΩ y2 σ) (stS hΩ 0 rfl) rfl rfl ⟨by decide, by decide⟩ ⟨rfl, rfl⟩ ⟨Nat.zero_le _, Nat.zero_le _⟩ (Nat.le_of_ble_eq_true rfl) (fun r30 _ => ?_)
        exact g_sub [0, 1, 2] rfl (c_X12_goes_115 hX hO hΩ _ hk90 (y1) (y2) r30)
def b_X12_goes_82  (k4 : Int32 → Int32 → MS → Option (Int32 × MS))  (y1 : Int32) (y2 : Int32) (σ : MS) : Option (Int32 × MS) := (k4 (y1) ((y2 + (1 : Int32))) σ)
set_option maxHeartbeats 4000000 in
set_option maxRecDepth 20000 in
theorem c_X12_goes_82 {X : CX} {Ω : OM} (hX : CF X Ω RX12 cX12_goes 4 (some .int) rm_X12_goes) (hO : OKO Ω) (hΩ : oSH Ω = SHM)   (k4 : Int32 → Int32 → MS → Option (Int32 × MS)) (hk4 : ∀ (y1 : Int32) (y2 : Int32) (σ : MS) , GE X Ω 4 0 0 (emWI) 0 0 4 [(0, .ref 0), (1, .int y1), (2, .int y2)] [] σ (k4 y1 y2 σ))  (y1 : Int32) (y2 : Int32) (σ : MS)  : GE X Ω 4 0 0 (emWI) 0 0 82 [(0, .ref 0), (1, .int y1), (2, .int y2)] [] σ (b_X12_goes_82  k4 y1 y2 σ) := by
  unfold b_X12_goes_82
  refine g_iinc (w := (y2 + (1 : Int32))) (L' := [(2, .int (y2 + (1 : Int32))), (0, .ref 0), (1, .int y1)]) hX (dc_X12_goes 52 rfl) 2 rfl rfl (by decide) rfl ?_
  refine g_goto (tgt := 4) hX (dc_X12_goes 53 rfl) (by decide) ?_
  exact g_sub [1, 2, 0] rfl (hk4 (y1) ((y2 + (1 : Int32))) σ )
def b_X12_goes_4   : Nat → Int32 → Int32 → MS → Option (Int32 × MS)
  | 0, _, _, _ => none
  | n + 1, y1, y2, σ => (if (sI σ 1 4) ≤ y2 then (b_X12_goes_90 FU (y1) ((0 : Int32)) σ) else chk (inb y2 6) ((if (sI σ 9 (ix y2)) = (-1 : Int32) then (b_X12_goes_82 (b_X12_goes_4  n) (y1) (y2) σ) else chk (inb y2 6) ((f_X12_isAsleep (sI σ 9 (ix y2)) (sI σ 1 5) σ).bind (fun r35 => (if r35 = 0 then (b_X12_goes_82 (b_X12_goes_4  n) (y1) (y2) σ) else (f_X12_takerOf y2 σ).bind (fun r37 => (if r37.1 = (-1 : Int32) then (f_X12_drops y2 r37.2).bind (fun r39 => chk (inb y2 6) (chk (inb y2 6) ((b_X12_goes_82 (b_X12_goes_4  n) ((y1 + (1 : Int32))) (y2) (wI r39 10 (ix y2) ((sI r39 10 (ix y2)) + (1 : Int32))))))) else chk (inb y2 6) ((b_X12_goes_82 (b_X12_goes_4  n) (y1) (y2) (wI r37.2 9 (ix y2) r37.1)))))))))))
set_option maxHeartbeats 4000000 in
set_option maxRecDepth 20000 in
theorem c_X12_goes_4 {X : CX} {Ω : OM} (hX : CF X Ω RX12 cX12_goes 4 (some .int) rm_X12_goes) (hO : OKO Ω) (hΩ : oSH Ω = SHM)    : ∀ (n : Nat) (y1 : Int32) (y2 : Int32) (σ : MS) , GE X Ω 4 0 0 (emWI) 0 0 4 [(0, .ref 0), (1, .int y1), (2, .int y2)] [] σ (b_X12_goes_4  n y1 y2 σ)
  | 0, _, _, _ => g_none
  | n + 1, y1, y2, σ => by
    have hk4 := c_X12_goes_4 hX hO hΩ  n
    unfold b_X12_goes_4
    refine g_iload_n hX (dc_X12_goes 4 rfl) rfl 2 rfl ?_
    refine g_aload_n hX (dc_X12_goes 5 rfl) rfl 0 rfl ?_
    refine g_getF (q := 1) hX (dc_X12_goes 6 rfl) fl_X12_9 (by decide) rfl (stS hΩ 0 rfl) rfl ?_
    refine g_iconst (w := (4 : Int32)) hX (dc_X12_goes 7 rfl) (by decide) ?_
    refine g_iald (j := 4) hX (dc_X12_goes 8 rfl) (stS hΩ 1 rfl) (by decide) (by decide) ?_
    refine g_icmp_ge (tgt := 88) hX (dc_X12_goes 9 rfl) (by decide) (fun h31 => ?_) (fun h31 => ?_)
    · refine g_iconst (w := (0 : Int32)) hX (dc_X12_goes 54 rfl) (by decide) ?_
      refine g_istore_n (L' := [(2, .int (0 : Int32)), (0, .ref 0), (1, .int y1)]) hX (dc_X12_goes 55 rfl) rfl (by decide) rfl ?_
      exact g_sub [1, 2, 0] rfl (c_X12_goes_90 hX hO hΩ FU (y1) ((0 : Int32)) σ)
    · refine g_aload_n hX (dc_X12_goes 10 rfl) rfl 0 rfl ?_
      refine g_getF (q := 9) hX (dc_X12_goes 11 rfl) fl_X12_34 (by decide) rfl (stS hΩ 0 rfl) rfl ?_
      refine g_iload_n hX (dc_X12_goes 12 rfl) rfl 2 rfl ?_
      refine g_chk (fun hc32 => ?_)
      refine g_iald hX (dc_X12_goes 13 rfl) (stS hΩ 9 rfl) hc32 rfl ?_
      refine g_iconst (w := (-1 : Int32)) hX (dc_X12_goes 14 rfl) (by decide) ?_
      refine g_icmp_eq (tgt := 82) hX (dc_X12_goes 15 rfl) (by decide) (fun h33 => ?_) (fun h33 => ?_)
      · exact g_sub [0, 1, 2] rfl (c_X12_goes_82 hX hO hΩ _ hk4 (y1) (y2) σ)
      · refine g_aload_n hX (dc_X12_goes 16 rfl) rfl 0 rfl ?_
        refine g_aload_n hX (dc_X12_goes 17 rfl) rfl 0 rfl ?_
        refine g_getF (q := 9) hX (dc_X12_goes 18 rfl) fl_X12_34 (by decide) rfl (stS hΩ 0 rfl) rfl ?_
        refine g_iload_n hX (dc_X12_goes 19 rfl) rfl 2 rfl ?_
        refine g_chk (fun hc34 => ?_)
        refine g_iald hX (dc_X12_goes 20 rfl) (stS hΩ 9 rfl) hc34 rfl ?_
        refine g_aload_n hX (dc_X12_goes 21 rfl) rfl 0 rfl ?_
        refine g_getF (q := 1) hX (dc_X12_goes 22 rfl) fl_X12_9 (by decide) rfl (stS hΩ 0 rfl) rfl ?_
        refine g_iconst (w := (5 : Int32)) hX (dc_X12_goes 23 rfl) (by decide) ?_
        refine g_iald (j := 5) hX (dc_X12_goes 24 rfl) (stS hΩ 1 rfl) (by decide) (by decide) ?_
        refine gV_PI (As := [.int (sI σ 9 (ix y2)), .int (sI σ 1 5)]) (st := []) hX (dc_X12_goes 25 rfl) ml_X12_381 (con_X12_isAsleep hO hΩ (sI σ 9 (ix y2)) (sI σ 1 5) σ) (stS hΩ 0 rfl) rfl rfl ⟨by decide, by decide⟩ ⟨rfl, rfl⟩ ⟨Nat.zero_le _, Nat.zero_le _⟩ (Nat.le_of_ble_eq_true rfl) (fun r35 _ => ?_)
        refine g_if_eq (tgt := 82) hX (dc_X12_goes 26 rfl) (by decide) (fun h36 => ?_) (fun h36 => ?_)
        · exact g_sub [0, 1, 2] rfl (c_X12_goes_82 hX hO hΩ _ hk4 (y1) (y2) σ)
        · refine g_aload_n hX (dc_X12_goes 27 rfl) rfl 0 rfl ?_
          refine g_iload_n hX (dc_X12_goes 28 rfl) rfl 2 rfl ?_
          refine gV_WI (As := [.int y2]) (st := []) hX (dc_X12_goes 29 rfl) ml_X12_416 (con_X12_takerOf hO hΩ y2 σ) (stS hΩ 0 rfl) rfl rfl ⟨by decide, by decide⟩ ⟨rfl, rfl⟩ ⟨Nat.zero_le _, Nat.zero_le _⟩ (Nat.le_of_ble_eq_true rfl) (fun r37 _ => ?_)
          refine g_istore_n (L' := [(3, .int r37.1), (0, .ref 0), (1, .int y1), (2, .int y2)]) hX (dc_X12_goes 30 rfl) rfl (by decide) rfl ?_
          refine g_iload_n hX (dc_X12_goes 31 rfl) rfl 0 rfl ?_
          refine g_iconst (w := (-1 : Int32)) hX (dc_X12_goes 32 rfl) (by decide) ?_
          refine g_icmp_ne (tgt := 75) hX (dc_X12_goes 33 rfl) (by decide) (fun h38 => ?_) (fun h38 => ?_)
          · refine g_aload_n hX (dc_X12_goes 34 rfl) rfl 1 rfl ?_
            refine g_iload_n hX (dc_X12_goes 35 rfl) rfl 3 rfl ?_
            refine gV_WV (As := [.int y2]) (st := []) hX (dc_X12_goes 36 rfl) ml_X12_419 (con_X12_drops hO hΩ y2 r37.2) (stS hΩ 0 rfl) rfl rfl ⟨by decide, by decide⟩ ⟨rfl, rfl⟩ ⟨Nat.zero_le _, Nat.zero_le _⟩ (Nat.le_of_ble_eq_true rfl) (fun r39 _ => ?_)
            refine g_aload_n hX (dc_X12_goes 37 rfl) rfl 1 rfl ?_
            refine g_getF (q := 10) hX (dc_X12_goes 38 rfl) fl_X12_37 (by decide) rfl (stS hΩ 0 rfl) rfl ?_
            refine g_iload_n hX (dc_X12_goes 39 rfl) rfl 3 rfl ?_
            refine g_dup2 hX (dc_X12_goes 40 rfl) rfl rfl ?_
            refine g_chk (fun hc40 => ?_)
            refine g_iald hX (dc_X12_goes 41 rfl) (stS hΩ 10 rfl) hc40 rfl ?_
            refine g_iconst (w := (1 : Int32)) hX (dc_X12_goes 42 rfl) (by decide) ?_
            refine g_iadd hX (dc_X12_goes 43 rfl) ?_
            refine g_chk (fun hc41 => ?_)
            refine g_iast hX (dc_X12_goes 44 rfl) (stS hΩ 10 rfl) hc41 rfl ?_
            refine g_iinc (w := (y1 + (1 : Int32))) (L' := [(1, .int (y1 + (1 : Int32))), (3, .int r37.1), (0, .ref 0), (2, .int y2)]) hX (dc_X12_goes 45 rfl) 2 rfl rfl (by decide) rfl ?_
            refine g_goto (tgt := 82) hX (dc_X12_goes 46 rfl) (by decide) ?_
            exact g_sub [2, 0, 3] rfl (c_X12_goes_82 hX hO hΩ _ hk4 ((y1 + (1 : Int32))) (y2) (wI r39 10 (ix y2) ((sI r39 10 (ix y2)) + (1 : Int32))))
          · refine g_aload_n hX (dc_X12_goes 47 rfl) rfl 1 rfl ?_
            refine g_getF (q := 9) hX (dc_X12_goes 48 rfl) fl_X12_34 (by decide) rfl (stS hΩ 0 rfl) rfl ?_
            refine g_iload_n hX (dc_X12_goes 49 rfl) rfl 3 rfl ?_
            refine g_iload_n hX (dc_X12_goes 50 rfl) rfl 0 rfl ?_
            refine g_chk (fun hc42 => ?_)
            refine g_iast hX (dc_X12_goes 51 rfl) (stS hΩ 9 rfl) hc42 rfl ?_
            exact g_sub [1, 2, 3] rfl (c_X12_goes_82 hX hO hΩ _ hk4 (y1) (y2) (wI r37.2 9 (ix y2) r37.1))
def b_X12_goes_0     (σ : MS) : Option (Int32 × MS) := (b_X12_goes_4 FU ((0 : Int32)) ((0 : Int32)) σ)
set_option maxHeartbeats 4000000 in
set_option maxRecDepth 20000 in
theorem c_X12_goes_0 {X : CX} {Ω : OM} (hX : CF X Ω RX12 cX12_goes 4 (some .int) rm_X12_goes) (hO : OKO Ω) (hΩ : oSH Ω = SHM)      (σ : MS)  : GE X Ω 4 0 0 (emWI) 0 0 0 [(0, .ref 0)] [] σ (b_X12_goes_0  σ) := by
  unfold b_X12_goes_0
  refine g_iconst (w := (0 : Int32)) hX (dc_X12_goes 0 rfl) (by decide) ?_
  refine g_istore_n (L' := [(1, .int (0 : Int32)), (0, .ref 0)]) hX (dc_X12_goes 1 rfl) rfl (by decide) rfl ?_
  refine g_iconst (w := (0 : Int32)) hX (dc_X12_goes 2 rfl) (by decide) ?_
  refine g_istore_n (L' := [(2, .int (0 : Int32)), (1, .int (0 : Int32)), (0, .ref 0)]) hX (dc_X12_goes 3 rfl) rfl (by decide) rfl ?_
  exact g_sub [2, 1, 0] rfl (c_X12_goes_4 hX hO hΩ FU ((0 : Int32)) ((0 : Int32)) σ)
def f_X12_goes  (σ : MS) : Option (Int32 × MS) := b_X12_goes_0   σ
theorem con_X12_goes {Ω : OM} (hO : OKO Ω) (hΩ : oSH Ω = SHM)  (σ : MS)  : Con Ω yX12_goes cX12_goes 4 (some .int) rm_X12_goes (emWI) [.ref 0] σ (f_X12_goes  σ) :=
  con_of hO (by decide +kernel) (Nat.le_of_ble_eq_true rfl) rfl (fun X hX _ => c_X12_goes_0 hX hO hΩ    σ )
def it_X12_goFor : List (Nat × Instr × Nat × Nat) := [(0, .iconst 0, 1, 1), (1, .istore_n 2, 1, 2), (2, .iconst 0, 1, 3), (3, .istore_n 3, 1, 4), (4, .iload_n 3, 1, 5), (5, .iload_n 1, 1, 6), (6, .if_icmp .ge 16, 3, 9), (9, .iload_n 2, 1, 10), (10, .aload_n 0, 1, 11), (11, .invokevirtual 428, 3, 14), (14, .iadd, 1, 15), (15, .istore_n 2, 1, 16), (16, .iinc 3 1, 3, 19), (19, .goto (-15), 3, 22), (22, .iload_n 2, 1, 23), (23, .ireturn, 1, 24)]
theorem id_X12_goFor : ∀ q ∈ it_X12_goFor, decode cX12_goFor q.1 = .ok (q.2.1, q.2.2.1) ∧ q.1 + q.2.2.1 = q.2.2.2 := by decide +kernel
theorem dc_X12_goFor {pc : Nat} {i : Instr} {n pc' : Nat} (j : Nat) (h : it_X12_goFor[j]? = some (pc, i, n, pc')) : Dc cX12_goFor pc i n pc' := dc_of id_X12_goFor j h
abbrev rm_X12_goFor : Room := { frames := 7, cells := 0, slots := 0, locals := 165 }
def b_X12_goFor_4   : Nat → Int32 → Int32 → Int32 → MS → Option (Int32 × MS)
  | 0, _, _, _, _ => none
  | n + 1, y1, y2, y3, σ => (if y1 ≤ y3 then some (y2, σ) else (f_X12_goes σ).bind (fun r4 => ((b_X12_goFor_4  n) (y1) ((y2 + r4.1)) ((y3 + (1 : Int32))) r4.2)))
set_option maxHeartbeats 4000000 in
set_option maxRecDepth 20000 in
theorem c_X12_goFor_4 {X : CX} {Ω : OM} (hX : CF X Ω RX12 cX12_goFor 4 (some .int) rm_X12_goFor) (hO : OKO Ω) (hΩ : oSH Ω = SHM)    : ∀ (n : Nat) (y1 : Int32) (y2 : Int32) (y3 : Int32) (σ : MS) , GE X Ω 4 0 0 (emWI) 0 0 4 [(0, .ref 0), (1, .int y1), (2, .int y2), (3, .int y3)] [] σ (b_X12_goFor_4  n y1 y2 y3 σ)
  | 0, _, _, _, _ => g_none
  | n + 1, y1, y2, y3, σ => by
    have hk4 := c_X12_goFor_4 hX hO hΩ  n
    unfold b_X12_goFor_4
    refine g_iload_n hX (dc_X12_goFor 4 rfl) rfl 3 rfl ?_
    refine g_iload_n hX (dc_X12_goFor 5 rfl) rfl 1 rfl ?_
    refine g_icmp_ge (tgt := 22) hX (dc_X12_goFor 6 rfl) (by decide) (fun h3 => ?_) (fun h3 => ?_)
    · refine g_iload_n hX (dc_X12_goFor 14 rfl) rfl 2 rfl ?_
      exact g_iret hX (dc_X12_goFor 15 rfl) rfl rfl (Nat.le_refl _) (Nat.le_refl _)
    · refine g_iload_n hX (dc_X12_goFor 7 rfl) rfl 2 rfl ?_
      refine g_aload_n hX (dc_X12_goFor 8 rfl) rfl 0 rfl ?_
      refine gV_WI (As := []) (st := [.int y2]) hX (dc_X12_goFor 9 rfl) ml_X12_428 (con_X12_goes hO hΩ σ) (stS hΩ 0 rfl) rfl rfl ⟨by decide, by decide⟩ ⟨rfl, rfl⟩ ⟨Nat.zero_le _, Nat.zero_le _⟩ (Nat.le_of_ble_eq_true rfl) (fun r4 _ => ?_)
      refine g_iadd hX (dc_X12_goFor 10 rfl) ?_
      refine g_istore_n (L' := [(2, .int (y2 + r4.1)), (0, .ref 0), (1, .int y1), (3, .int y3)]) hX (dc_X12_goFor 11 rfl) rfl (by decide) rfl ?_
      refine g_iinc (w := (y3 + (1 : Int32))) (L' := [(3, .int (y3 + (1 : Int32))), (2, .int (y2 + r4.1)), (0, .ref 0), (1, .int y1)]) hX (dc_X12_goFor 12 rfl) 3 rfl rfl (by decide) rfl ?_
      refine g_goto (tgt := 4) hX (dc_X12_goFor 13 rfl) (by decide) ?_
      exact g_sub [2, 3, 1, 0] rfl (hk4 (y1) ((y2 + r4.1)) ((y3 + (1 : Int32))) r4.2 )
def b_X12_goFor_0   (x1 : Int32)  (σ : MS) : Option (Int32 × MS) := (b_X12_goFor_4 FU (x1) ((0 : Int32)) ((0 : Int32)) σ)
set_option maxHeartbeats 4000000 in
set_option maxRecDepth 20000 in
theorem c_X12_goFor_0 {X : CX} {Ω : OM} (hX : CF X Ω RX12 cX12_goFor 4 (some .int) rm_X12_goFor) (hO : OKO Ω) (hΩ : oSH Ω = SHM)    (x1 : Int32)  (σ : MS)  : GE X Ω 4 0 0 (emWI) 0 0 0 [(0, .ref 0), (1, .int x1)] [] σ (b_X12_goFor_0  x1 σ) := by
  unfold b_X12_goFor_0
  refine g_iconst (w := (0 : Int32)) hX (dc_X12_goFor 0 rfl) (by decide) ?_
  refine g_istore_n (L' := [(2, .int (0 : Int32)), (0, .ref 0), (1, .int x1)]) hX (dc_X12_goFor 1 rfl) rfl (by decide) rfl ?_
  refine g_iconst (w := (0 : Int32)) hX (dc_X12_goFor 2 rfl) (by decide) ?_
  refine g_istore_n (L' := [(3, .int (0 : Int32)), (2, .int (0 : Int32)), (0, .ref 0), (1, .int x1)]) hX (dc_X12_goFor 3 rfl) rfl (by decide) rfl ?_
  exact g_sub [2, 3, 1, 0] rfl (c_X12_goFor_4 hX hO hΩ FU (x1) ((0 : Int32)) ((0 : Int32)) σ)
def f_X12_goFor (x1 : Int32) (σ : MS) : Option (Int32 × MS) := b_X12_goFor_0  x1 σ
theorem con_X12_goFor {Ω : OM} (hO : OKO Ω) (hΩ : oSH Ω = SHM) (x1 : Int32) (σ : MS)  : Con Ω yX12_goFor cX12_goFor 4 (some .int) rm_X12_goFor (emWI) [.ref 0, .int x1] σ (f_X12_goFor x1 σ) :=
  con_of hO (by decide +kernel) (Nat.le_of_ble_eq_true rfl) rfl (fun X hX _ => c_X12_goFor_0 hX hO hΩ   x1 σ )
def it_X12_moves : List (Nat × Instr × Nat × Nat) := [(0, .aload_n 0, 1, 1), (1, .getfield 431, 3, 4), (4, .ifCond .eq 15, 3, 7), (7, .aload_n 0, 1, 8), (8, .getfield 127, 3, 11), (11, .aload_n 0, 1, 12), (12, .getfield 434, 3, 15), (15, .iaload, 1, 16), (16, .goto 4, 3, 19), (19, .iload_n 1, 1, 20), (20, .istore_n 2, 1, 21), (21, .aload_n 0, 1, 22), (22, .getfield 127, 3, 25), (25, .aload_n 0, 1, 26), (26, .getfield 434, 3, 29), (29, .iload_n 2, 1, 30), (30, .iastore, 1, 31), (31, .aload_n 0, 1, 32), (32, .dup, 1, 33), (33, .getfield 434, 3, 36), (36, .iconst 1, 1, 37), (37, .iadd, 1, 38), (38, .putfield 434, 3, 41), (41, .iload_n 2, 1, 42), (42, .ireturn, 1, 43)]
theorem id_X12_moves : ∀ q ∈ it_X12_moves, decode cX12_moves q.1 = .ok (q.2.1, q.2.2.1) ∧ q.1 + q.2.2.1 = q.2.2.2 := by decide +kernel
theorem dc_X12_moves {pc : Nat} {i : Instr} {n pc' : Nat} (j : Nat) (h : it_X12_moves[j]? = some (pc, i, n, pc')) : Dc cX12_moves pc i n pc' := dc_of id_X12_moves j h
abbrev rm_X12_moves : Room := { frames := 0, cells := 0, slots := 0, locals := 0 }
def b_X12_moves_20    (s0 : Int32) (σ : MS) : Option (Int32 × MS) := chk (inb (sI σ 0 52) 380) (some (s0, (wI (wI σ 38 (ix (sI σ 0 52)) s0) 0 52 ((sI (wI σ 38 (ix (sI σ 0 52)) s0) 0 52) + (1 : Int32)))))
set_option maxHeartbeats 4000000 in
set_option maxRecDepth 20000 in
theorem c_X12_moves_20 {X : CX} {Ω : OM} (hX : CF X Ω RX12 cX12_moves 3 (some .int) rm_X12_moves) (hO : OKO Ω) (hΩ : oSH Ω = SHM)     (s0 : Int32) (σ : MS)  : GE X Ω 3 0 0 (emWI) 0 0 20 [(0, .ref 0)] [.int s0] σ (b_X12_moves_20  s0 σ) := by
  unfold b_X12_moves_20
  refine g_istore_n (L' := [(2, .int s0), (0, .ref 0)]) hX (dc_X12_moves 10 rfl) rfl (by decide) rfl ?_
  refine g_aload_n hX (dc_X12_moves 11 rfl) rfl 1 rfl ?_
  refine g_getF (q := 38) hX (dc_X12_moves 12 rfl) fl_X12_127 (by decide) rfl (stS hΩ 0 rfl) rfl ?_
  refine g_aload_n hX (dc_X12_moves 13 rfl) rfl 1 rfl ?_
  refine g_getI hX (dc_X12_moves 14 rfl) fl_X12_434 (by decide) rfl (stS hΩ 0 rfl) ?_
  refine g_iload_n hX (dc_X12_moves 15 rfl) rfl 0 rfl ?_
  refine g_chk (fun hc4 => ?_)
  refine g_iast hX (dc_X12_moves 16 rfl) (stS hΩ 38 rfl) hc4 rfl ?_
  refine g_aload_n hX (dc_X12_moves 17 rfl) rfl 1 rfl ?_
  refine g_dup hX (dc_X12_moves 18 rfl) rfl ?_
  refine g_getI hX (dc_X12_moves 19 rfl) fl_X12_434 (by decide) rfl (stS hΩ 0 rfl) ?_
  refine g_iconst (w := (1 : Int32)) hX (dc_X12_moves 20 rfl) (by decide) ?_
  refine g_iadd hX (dc_X12_moves 21 rfl) ?_
  refine g_putI (raw := false) hX (dc_X12_moves 22 rfl) fl_X12_434 (by decide) ⟨rfl, rfl⟩ ⟨rfl, rfl⟩ (stS hΩ 0 rfl) ?_
  refine g_iload_n hX (dc_X12_moves 23 rfl) rfl 0 rfl ?_
  exact g_iret hX (dc_X12_moves 24 rfl) rfl rfl (Nat.le_refl _) (Nat.le_refl _)
def b_X12_moves_0   (x1 : Int32)  (σ : MS) : Option (Int32 × MS) := (if (sI σ 0 53) = 0 then (b_X12_moves_20 (x1) σ) else chk (inb (sI σ 0 52) 380) ((b_X12_moves_20 ((sI σ 38 (ix (sI σ 0 52)))) σ)))
set_option maxHeartbeats 4000000 in
set_option maxRecDepth 20000 in
theorem c_X12_moves_0 {X : CX} {Ω : OM} (hX : CF X Ω RX12 cX12_moves 3 (some .int) rm_X12_moves) (hO : OKO Ω) (hΩ : oSH Ω = SHM)    (x1 : Int32)  (σ : MS)  : GE X Ω 3 0 0 (emWI) 0 0 0 [(0, .ref 0), (1, .int x1)] [] σ (b_X12_moves_0  x1 σ) := by
  unfold b_X12_moves_0
  refine g_aload_n hX (dc_X12_moves 0 rfl) rfl 0 rfl ?_
  refine g_getI hX (dc_X12_moves 1 rfl) fl_X12_431 (by decide) rfl (stS hΩ 0 rfl) ?_
  refine g_if_eq (tgt := 19) hX (dc_X12_moves 2 rfl) (by decide) (fun h5 => ?_) (fun h5 => ?_)
  · refine g_iload_n hX (dc_X12_moves 9 rfl) rfl 1 rfl ?_
    exact g_sub [0] rfl (c_X12_moves_20 hX hO hΩ (x1) σ)
  · refine g_aload_n hX (dc_X12_moves 3 rfl) rfl 0 rfl ?_
    refine g_getF (q := 38) hX (dc_X12_moves 4 rfl) fl_X12_127 (by decide) rfl (stS hΩ 0 rfl) rfl ?_
    refine g_aload_n hX (dc_X12_moves 5 rfl) rfl 0 rfl ?_
    refine g_getI hX (dc_X12_moves 6 rfl) fl_X12_434 (by decide) rfl (stS hΩ 0 rfl) ?_
    refine g_chk (fun hc6 => ?_)
    refine g_iald hX (dc_X12_moves 7 rfl) (stS hΩ 38 rfl) hc6 rfl ?_
    refine g_goto (tgt := 20) hX (dc_X12_moves 8 rfl) (by decide) ?_
    exact g_sub [0] rfl (c_X12_moves_20 hX hO hΩ ((sI σ 38 (ix (sI σ 0 52)))) σ)
def f_X12_moves (x1 : Int32) (σ : MS) : Option (Int32 × MS) := b_X12_moves_0  x1 σ
theorem con_X12_moves {Ω : OM} (hO : OKO Ω) (hΩ : oSH Ω = SHM) (x1 : Int32) (σ : MS)  : Con Ω yX12_moves cX12_moves 3 (some .int) rm_X12_moves (emWI) [.ref 0, .int x1] σ (f_X12_moves x1 σ) :=
  con_of hO (by decide +kernel) (Nat.le_of_ble_eq_true rfl) rfl (fun X hX _ => c_X12_moves_0 hX hO hΩ   x1 σ )
def it_X12_movesRow : List (Nat × Instr × Nat × Nat) := [(0, .iconst 0, 1, 1), (1, .istore_n 2, 1, 2), (2, .iload_n 2, 1, 3), (3, .aload_n 1, 1, 4), (4, .arraylength, 1, 5), (5, .if_icmp .ge 19, 3, 8), (8, .aload_n 1, 1, 9), (9, .iload_n 2, 1, 10), (10, .aload_n 0, 1, 11), (11, .aload_n 1, 1, 12), (12, .iload_n 2, 1, 13), (13, .iaload, 1, 14), (14, .invokevirtual 437, 3, 17), (17, .iastore, 1, 18), (18, .iinc 2 1, 3, 21), (21, .goto (-19), 3, 24), (24, .return_, 1, 25)]
theorem id_X12_movesRow : ∀ q ∈ it_X12_movesRow, decode cX12_movesRow q.1 = .ok (q.2.1, q.2.2.1) ∧ q.1 + q.2.2.1 = q.2.2.2 := by decide +kernel
theorem dc_X12_movesRow {pc : Nat} {i : Instr} {n pc' : Nat} (j : Nat) (h : it_X12_movesRow[j]? = some (pc, i, n, pc')) : Dc cX12_movesRow pc i n pc' := dc_of id_X12_movesRow j h
abbrev rm_X12_movesRow : Room := { frames := 1, cells := 0, slots := 0, locals := 22 }
def b_X12_movesRow_2 (a1 : Nat) (n1 : Nat)  : Nat → Int32 → MS → Option (MS)
  | 0, _, _ => none
  | n + 1, y2, σ => (if (Int32.ofNat n1) ≤ y2 then some (σ) else chk (inb y2 n1) ((f_X12_moves (sI σ a1 (ix y2)) σ).bind (fun r7 => chk (inb y2 n1) (((b_X12_movesRow_2 a1 n1 n) ((y2 + (1 : Int32))) (wI r7.2 a1 (ix y2) r7.1))))))
set_option maxHeartbeats 4000000 in
set_option maxRecDepth 20000 in
theorem c_X12_movesRow_2 {X : CX} {Ω : OM} (hX : CF X Ω RX12 cX12_movesRow 3 none rm_X12_movesRow) (hO : OKO Ω) (hΩ : oSH Ω = SHM) (a1 : Nat) (n1 : Nat) (ha1 : (oSH Ω)[a1]? = some (0, n1))  : ∀ (n : Nat) (y2 : Int32) (σ : MS) , GE X Ω 3 0 0 (emWV) 0 0 2 [(0, .ref 0), (1, .ref a1), (2, .int y2)] [] σ (b_X12_movesRow_2 a1 n1 n y2 σ)
  | 0, _, _ => g_none
  | n + 1, y2, σ => by
    have hk2 := c_X12_movesRow_2 hX hO hΩ a1 n1 ha1 n
    unfold b_X12_movesRow_2
    refine g_iload_n hX (dc_X12_movesRow 2 rfl) rfl 2 rfl ?_
    refine g_aload_n hX (dc_X12_movesRow 3 rfl) rfl 1 rfl ?_
    refine g_alen (w := (Int32.ofNat n1)) hX (dc_X12_movesRow 4 rfl) (Or.inl ha1) (by decide) rfl ?_
    refine g_icmp_ge (tgt := 24) hX (dc_X12_movesRow 5 rfl) (by decide) (fun h5 => ?_) (fun h5 => ?_)
    · exact g_vret hX (dc_X12_movesRow 16 rfl) rfl (Nat.le_refl _) (Nat.le_refl _)
    · refine g_aload_n hX (dc_X12_movesRow 6 rfl) rfl 1 rfl ?_
      refine g_iload_n hX (dc_X12_movesRow 7 rfl) rfl 2 rfl ?_
      refine g_aload_n hX (dc_X12_movesRow 8 rfl) rfl 0 rfl ?_
      refine g_aload_n hX (dc_X12_movesRow 9 rfl) rfl 1 rfl ?_
      refine g_iload_n hX (dc_X12_movesRow 10 rfl) rfl 2 rfl ?_
      refine g_chk (fun hc6 => ?_)
      refine g_iald hX (dc_X12_movesRow 11 rfl) (Or.inl ha1) hc6 rfl ?_
      refine gV_WI (As := [.int (sI σ a1 (ix y2))]) (st := [.int y2, .ref a1]) hX (dc_X12_movesRow 12 rfl) ml_X12_437 (con_X12_moves hO hΩ (sI σ a1 (ix y2)) σ) (stS hΩ 0 rfl) rfl rfl ⟨by decide, by decide⟩ ⟨rfl, rfl⟩ ⟨Nat.zero_le _, Nat.zero_le _⟩ (Nat.le_of_ble_eq_true rfl) (fun r7 _ => ?_)
      refine g_chk (fun hc8 => ?_)
      refine g_iast hX (dc_X12_movesRow 13 rfl) (Or.inl ha1) hc8 rfl ?_
      refine g_iinc (w := (y2 + (1 : Int32))) (L' := [(2, .int (y2 + (1 : Int32))), (0, .ref 0), (1, .ref a1)]) hX (dc_X12_movesRow 14 rfl) 2 rfl rfl (by decide) rfl ?_
      refine g_goto (tgt := 2) hX (dc_X12_movesRow 15 rfl) (by decide) ?_
      exact g_sub [1, 2, 0] rfl (hk2 ((y2 + (1 : Int32))) (wI r7.2 a1 (ix y2) r7.1) )
def b_X12_movesRow_0 (a1 : Nat) (n1 : Nat)    (σ : MS) : Option (MS) := (b_X12_movesRow_2 a1 n1 FU ((0 : Int32)) σ)
set_option maxHeartbeats 4000000 in
set_option maxRecDepth 20000 in
theorem c_X12_movesRow_0 {X : CX} {Ω : OM} (hX : CF X Ω RX12 cX12_movesRow 3 none rm_X12_movesRow) (hO : OKO Ω) (hΩ : oSH Ω = SHM) (a1 : Nat) (n1 : Nat) (ha1 : (oSH Ω)[a1]? = some (0, n1))    (σ : MS)  : GE X Ω 3 0 0 (emWV) 0 0 0 [(0, .ref 0), (1, .ref a1)] [] σ (b_X12_movesRow_0 a1 n1 σ) := by
  unfold b_X12_movesRow_0
  refine g_iconst (w := (0 : Int32)) hX (dc_X12_movesRow 0 rfl) (by decide) ?_
  refine g_istore_n (L' := [(2, .int (0 : Int32)), (0, .ref 0), (1, .ref a1)]) hX (dc_X12_movesRow 1 rfl) rfl (by decide) rfl ?_
  exact g_sub [1, 2, 0] rfl (c_X12_movesRow_2 hX hO hΩ a1 n1 ha1 FU ((0 : Int32)) σ)
def f_X12_movesRow (a1 : Nat) (n1 : Nat) (σ : MS) : Option (MS) := b_X12_movesRow_0 a1 n1  σ
theorem con_X12_movesRow {Ω : OM} (hO : OKO Ω) (hΩ : oSH Ω = SHM) (a1 : Nat) (n1 : Nat) (σ : MS) (ha1 : (oSH Ω)[a1]? = some (0, n1)) : Con Ω yX12_movesRow cX12_movesRow 3 none rm_X12_movesRow (emWV) [.ref 0, .ref a1] σ (f_X12_movesRow a1 n1 σ) :=
  con_of hO (by decide +kernel) (Nat.le_of_ble_eq_true rfl) rfl (fun X hX _ => c_X12_movesRow_0 hX hO hΩ a1 n1 ha1  σ )
def it_X12_movesAll : List (Nat × Instr × Nat × Nat) := [(0, .aload_n 0, 1, 1), (1, .bipush 19, 2, 3), (3, .iload_n 1, 1, 4), (4, .imul, 1, 5), (5, .putfield 434, 3, 8), (8, .aload_n 0, 1, 9), (9, .iload_n 2, 1, 10), (10, .putfield 431, 3, 13), (13, .aload_n 0, 1, 14), (14, .getfield 9, 3, 17), (17, .iconst 1, 1, 18), (18, .aload_n 0, 1, 19), (19, .aload_n 0, 1, 20), (20, .getfield 9, 3, 23), (23, .iconst 1, 1, 24), (24, .iaload, 1, 25), (25, .invokevirtual 437, 3, 28), (28, .iastore, 1, 29), (29, .aload_n 0, 1, 30), (30, .getfield 9, 3, 33), (33, .iconst 5, 1, 34), (34, .aload_n 0, 1, 35), (35, .aload_n 0, 1, 36), (36, .getfield 9, 3, 39), (39, .iconst 5, 1, 40), (40, .iaload, 1, 41), (41, .invokevirtual 437, 3, 44), (44, .iastore, 1, 45), (45, .aload_n 0, 1, 46), (46, .getfield 9, 3, 49), (49, .bipush 6, 2, 51), (51, .aload_n 0, 1, 52), (52, .aload_n 0, 1, 53), (53, .getfield 9, 3, 56), (56, .bipush 6, 2, 58), (58, .iaload, 1, 59), (59, .invokevirtual 437, 3, 62), (62, .iastore, 1, 63), (63, .aload_n 0, 1, 64), (64, .aload_n 0, 1, 65), (65, .getfield 19, 3, 68), (68, .invokevirtual 440, 3, 71), (71, .aload_n 0, 1, 72), (72, .aload_n 0, 1, 73), (73, .getfield 34, 3, 76), (76, .invokevirtual 440, 3, 79), (79, .aload_n 0, 1, 80), (80, .aload_n 0, 1, 81), (81, .getfield 37, 3, 84), (84, .invokevirtual 440, 3, 87), (87, .return_, 1, 88)]
theorem id_X12_movesAll : ∀ q ∈ it_X12_movesAll, decode cX12_movesAll q.1 = .ok (q.2.1, q.2.2.1) ∧ q.1 + q.2.2.1 = q.2.2.2 := by decide +kernel
theorem dc_X12_movesAll {pc : Nat} {i : Instr} {n pc' : Nat} (j : Nat) (h : it_X12_movesAll[j]? = some (pc, i, n, pc')) : Dc cX12_movesAll pc i n pc' := dc_of id_X12_movesAll j h
abbrev rm_X12_movesAll : Room := { frames := 2, cells := 0, slots := 0, locals := 44 }
def b_X12_movesAll_0   (x1 : Int32) (x2 : Int32)  (σ : MS) : Option (MS) := chk (x2 = 0 ∨ x2 = 1) ((f_X12_moves (sI (wI (wI σ 0 52 ((19 : Int32) * x1)) 0 53 x2) 1 1) (wI (wI σ 0 52 ((19 : Int32) * x1)) 0 53 x2)).bind (fun r9 => (f_X12_moves (sI (wI r9.2 1 1 r9.1) 1 5) (wI r9.2 1 1 r9.1)).bind (fun r10 => (f_X12_moves (sI (wI r10.2 1 5 r10.1) 1 6) (wI r10.2 1 5 r10.1)).bind (fun r11 => (f_X12_movesRow 4 4 (wI r11.2 1 6 r11.1)).bind (fun r12 => (f_X12_movesRow 9 6 r12).bind (fun r13 => (f_X12_movesRow 10 6 r13).bind (fun r14 => some (r14))))))))
set_option maxHeartbeats 4000000 in
set_option maxRecDepth 20000 in
theorem c_X12_movesAll_0 {X : CX} {Ω : OM} (hX : CF X Ω RX12 cX12_movesAll 3 none rm_X12_movesAll) (hO : OKO Ω) (hΩ : oSH Ω = SHM)    (x1 : Int32) (x2 : Int32)  (σ : MS)  : GE X Ω 3 0 0 (emWV) 0 0 0 [(0, .ref 0), (1, .int x1), (2, .int x2)] [] σ (b_X12_movesAll_0  x1 x2 σ) := by
  unfold b_X12_movesAll_0
  refine g_aload_n hX (dc_X12_movesAll 0 rfl) rfl 0 rfl ?_
  refine g_bipush (w := (19 : Int32)) hX (dc_X12_movesAll 1 rfl) (by decide) ?_
  refine g_iload_n hX (dc_X12_movesAll 2 rfl) rfl 1 rfl ?_
  refine g_imul hX (dc_X12_movesAll 3 rfl) ?_
  refine g_putI (raw := false) hX (dc_X12_movesAll 4 rfl) fl_X12_434 (by decide) ⟨rfl, rfl⟩ ⟨rfl, rfl⟩ (stS hΩ 0 rfl) ?_
  refine g_aload_n hX (dc_X12_movesAll 5 rfl) rfl 0 rfl ?_
  refine g_iload_n hX (dc_X12_movesAll 6 rfl) rfl 2 rfl ?_
  refine g_chk (fun hc8 => ?_)
  refine g_putI (raw := false) hX (dc_X12_movesAll 7 rfl) fl_X12_431 (by decide) ⟨rfl, rfl⟩ (nz_bool hc8) (stS hΩ 0 rfl) ?_
  refine g_aload_n hX (dc_X12_movesAll 8 rfl) rfl 0 rfl ?_
  refine g_getF (q := 1) hX (dc_X12_movesAll 9 rfl) fl_X12_9 (by decide) rfl (stS hΩ 0 rfl) rfl ?_
  refine g_iconst (w := (1 : Int32)) hX (dc_X12_movesAll 10 rfl) (by decide) ?_
  refine g_aload_n hX (dc_X12_movesAll 11 rfl) rfl 0 rfl ?_
  refine g_aload_n hX (dc_X12_movesAll 12 rfl) rfl 0 rfl ?_
  refine g_getF (q := 1) hX (dc_X12_movesAll 13 rfl) fl_X12_9 (by decide) rfl (stS hΩ 0 rfl) rfl ?_
  refine g_iconst (w := (1 : Int32)) hX (dc_X12_movesAll 14 rfl) (by decide) ?_
  refine g_iald (j := 1) hX (dc_X12_movesAll 15 rfl) (stS hΩ 1 rfl) (by decide) (by decide) ?_
  refine gV_WI (As := [.int (sI (wI (wI σ 0 52 ((19 : Int32) * x1)) 0 53 x2) 1 1)]) (st := [.int (1 : Int32), .ref 1]) hX (dc_X12_movesAll 16 rfl) ml_X12_437 (con_X12_moves hO hΩ (sI (wI (wI σ 0 52 ((19 : Int32) * x1)) 0 53 x2) 1 1) (wI (wI σ 0 52 ((19 : Int32) * x1)) 0 53 x2)) (stS hΩ 0 rfl) rfl rfl ⟨by decide, by decide⟩ ⟨rfl, rfl⟩ ⟨Nat.zero_le _, Nat.zero_le _⟩ (Nat.le_of_ble_eq_true rfl) (fun r9 _ => ?_)
  refine g_iast (j := 1) hX (dc_X12_movesAll 17 rfl) (stS hΩ 1 rfl) (by decide) (by decide) ?_
  refine g_aload_n hX (dc_X12_movesAll 18 rfl) rfl 0 rfl ?_
  refine g_getF (q := 1) hX (dc_X12_movesAll 19 rfl) fl_X12_9 (by decide) rfl (stS hΩ 0 rfl) rfl ?_
  refine g_iconst (w := (5 : Int32)) hX (dc_X12_movesAll 20 rfl) (by decide) ?_
  refine g_aload_n hX (dc_X12_movesAll 21 rfl) rfl 0 rfl ?_
  refine g_aload_n hX (dc_X12_movesAll 22 rfl) rfl 0 rfl ?_
  refine g_getF (q := 1) hX (dc_X12_movesAll 23 rfl) fl_X12_9 (by decide) rfl (stS hΩ 0 rfl) rfl ?_
  refine g_iconst (w := (5 : Int32)) hX (dc_X12_movesAll 24 rfl) (by decide) ?_
  refine g_iald (j := 5) hX (dc_X12_movesAll 25 rfl) (stS hΩ 1 rfl) (by decide) (by decide) ?_
  refine gV_WI (As := [.int (sI (wI r9.2 1 1 r9.1) 1 5)]) (st := [.int (5 : Int32), .ref 1]) hX (dc_X12_movesAll 26 rfl) ml_X12_437 (con_X12_moves hO hΩ (sI (wI r9.2 1 1 r9.1) 1 5) (wI r9.2 1 1 r9.1)) (stS hΩ 0 rfl) rfl rfl ⟨by decide, by decide⟩ ⟨rfl, rfl⟩ ⟨Nat.zero_le _, Nat.zero_le _⟩ (Nat.le_of_ble_eq_true rfl) (fun r10 _ => ?_)
  refine g_iast (j := 5) hX (dc_X12_movesAll 27 rfl) (stS hΩ 1 rfl) (by decide) (by decide) ?_
  refine g_aload_n hX (dc_X12_movesAll 28 rfl) rfl 0 rfl ?_
  refine g_getF (q := 1) hX (dc_X12_movesAll 29 rfl) fl_X12_9 (by decide) rfl (stS hΩ 0 rfl) rfl ?_
  refine g_bipush (w := (6 : Int32)) hX (dc_X12_movesAll 30 rfl) (by decide) ?_
  refine g_aload_n hX (dc_X12_movesAll 31 rfl) rfl 0 rfl ?_
  refine g_aload_n hX (dc_X12_movesAll 32 rfl) rfl 0 rfl ?_
  refine g_getF (q := 1) hX (dc_X12_movesAll 33 rfl) fl_X12_9 (by decide) rfl (stS hΩ 0 rfl) rfl ?_
  refine g_bipush (w := (6 : Int32)) hX (dc_X12_movesAll 34 rfl) (by decide) ?_
  refine g_iald (j := 6) hX (dc_X12_movesAll 35 rfl) (stS hΩ 1 rfl) (by decide) (by decide) ?_
  refine gV_WI (As := [.int (sI (wI r10.2 1 5 r10.1) 1 6)]) (st := [.int (6 : Int32), .ref 1]) hX (dc_X12_movesAll 36 rfl) ml_X12_437 (con_X12_moves hO hΩ (sI (wI r10.2 1 5 r10.1) 1 6) (wI r10.2 1 5 r10.1)) (stS hΩ 0 rfl) rfl rfl ⟨by decide, by decide⟩ ⟨rfl, rfl⟩ ⟨Nat.zero_le _, Nat.zero_le _⟩ (Nat.le_of_ble_eq_true rfl) (fun r11 _ => ?_)
  refine g_iast (j := 6) hX (dc_X12_movesAll 37 rfl) (stS hΩ 1 rfl) (by decide) (by decide) ?_
  refine g_aload_n hX (dc_X12_movesAll 38 rfl) rfl 0 rfl ?_
  refine g_aload_n hX (dc_X12_movesAll 39 rfl) rfl 0 rfl ?_
  refine g_getF (q := 4) hX (dc_X12_movesAll 40 rfl) fl_X12_19 (by decide) rfl (stS hΩ 0 rfl) rfl ?_
  refine gV_WV (As := [.ref 4]) (st := []) hX (dc_X12_movesAll 41 rfl) ml_X12_440 (con_X12_movesRow hO hΩ 4 4 (wI r11.2 1 6 r11.1) (by rw [hΩ]; rfl)) (stS hΩ 0 rfl) rfl rfl ⟨by decide, by decide⟩ ⟨rfl, rfl⟩ ⟨Nat.zero_le _, Nat.zero_le _⟩ (Nat.le_of_ble_eq_true rfl) (fun r12 _ => ?_)
  refine g_aload_n hX (dc_X12_movesAll 42 rfl) rfl 0 rfl ?_
  refine g_aload_n hX (dc_X12_movesAll 43 rfl) rfl 0 rfl ?_
  refine g_getF (q := 9) hX (dc_X12_movesAll 44 rfl) fl_X12_34 (by decide) rfl (stS hΩ 0 rfl) rfl ?_
  refine gV_WV (As := [.ref 9]) (st := []) hX (dc_X12_movesAll 45 rfl) ml_X12_440 (con_X12_movesRow hO hΩ 9 6 r12 (by rw [hΩ]; rfl)) (stS hΩ 0 rfl) rfl rfl ⟨by decide, by decide⟩ ⟨rfl, rfl⟩ ⟨Nat.zero_le _, Nat.zero_le _⟩ (Nat.le_of_ble_eq_true rfl) (fun r13 _ => ?_)
  refine g_aload_n hX (dc_X12_movesAll 46 rfl) rfl 0 rfl ?_
  refine g_aload_n hX (dc_X12_movesAll 47 rfl) rfl 0 rfl ?_
  refine g_getF (q := 10) hX (dc_X12_movesAll 48 rfl) fl_X12_37 (by decide) rfl (stS hΩ 0 rfl) rfl ?_
  refine gV_WV (As := [.ref 10]) (st := []) hX (dc_X12_movesAll 49 rfl) ml_X12_440 (con_X12_movesRow hO hΩ 10 6 r13 (by rw [hΩ]; rfl)) (stS hΩ 0 rfl) rfl rfl ⟨by decide, by decide⟩ ⟨rfl, rfl⟩ ⟨Nat.zero_le _, Nat.zero_le _⟩ (Nat.le_of_ble_eq_true rfl) (fun r14 _ => ?_)
  exact g_vret hX (dc_X12_movesAll 50 rfl) rfl (Nat.le_refl _) (Nat.le_refl _)
def f_X12_movesAll (x1 : Int32) (x2 : Int32) (σ : MS) : Option (MS) := b_X12_movesAll_0  x1 x2 σ
theorem con_X12_movesAll {Ω : OM} (hO : OKO Ω) (hΩ : oSH Ω = SHM) (x1 : Int32) (x2 : Int32) (σ : MS)  : Con Ω yX12_movesAll cX12_movesAll 3 none rm_X12_movesAll (emWV) [.ref 0, .int x1, .int x2] σ (f_X12_movesAll x1 x2 σ) :=
  con_of hO (by decide +kernel) (Nat.le_of_ble_eq_true rfl) rfl (fun X hX _ => c_X12_movesAll_0 hX hO hΩ   x1 x2 σ )
def it_X12_keepsAct : List (Nat × Instr × Nat × Nat) := [(0, .aload_n 0, 1, 1), (1, .getfield 348, 3, 4), (4, .bipush 20, 2, 6), (6, .if_icmp .ne 44, 3, 9), (9, .bipush 19, 2, 11), (11, .istore_n 1, 1, 12), (12, .iload_n 1, 1, 13), (13, .sipush 380, 3, 16), (16, .if_icmp .ge 24, 3, 19), (19, .aload_n 0, 1, 20), (20, .getfield 127, 3, 23), (23, .iload_n 1, 1, 24), (24, .bipush 19, 2, 26), (26, .isub, 1, 27), (27, .aload_n 0, 1, 28), (28, .getfield 127, 3, 31), (31, .iload_n 1, 1, 32), (32, .iaload, 1, 33), (33, .iastore, 1, 34), (34, .iinc 1 1, 3, 37), (37, .goto (-25), 3, 40), (40, .aload_n 0, 1, 41), (41, .dup, 1, 42), (42, .getfield 348, 3, 45), (45, .iconst 1, 1, 46), (46, .isub, 1, 47), (47, .putfield 348, 3, 50), (50, .aload_n 0, 1, 51), (51, .aload_n 0, 1, 52), (52, .getfield 348, 3, 55), (55, .iconst 0, 1, 56), (56, .invokevirtual 444, 3, 59), (59, .aload_n 0, 1, 60), (60, .dup, 1, 61), (61, .getfield 348, 3, 64), (64, .iconst 1, 1, 65), (65, .iadd, 1, 66), (66, .putfield 348, 3, 69), (69, .return_, 1, 70)]
theorem id_X12_keepsAct : ∀ q ∈ it_X12_keepsAct, decode cX12_keepsAct q.1 = .ok (q.2.1, q.2.2.1) ∧ q.1 + q.2.2.1 = q.2.2.2 := by decide +kernel
theorem dc_X12_keepsAct {pc : Nat} {i : Instr} {n pc' : Nat} (j : Nat) (h : it_X12_keepsAct[j]? = some (pc, i, n, pc')) : Dc cX12_keepsAct pc i n pc' := dc_of id_X12_keepsAct j h
abbrev rm_X12_keepsAct : Room := { frames := 3, cells := 0, slots := 0, locals := 66 }
def b_X12_keepsAct_50     (σ : MS) : Option (MS) := (f_X12_movesAll (sI σ 0 51) (0 : Int32) σ).bind (fun r6 => some ((wI r6 0 51 ((sI r6 0 51) + (1 : Int32)))))
set_option maxHeartbeats 4000000 in
set_option maxRecDepth 20000 in
theorem c_X12_keepsAct_50 {X : CX} {Ω : OM} (hX : CF X Ω RX12 cX12_keepsAct 2 none rm_X12_keepsAct) (hO : OKO Ω) (hΩ : oSH Ω = SHM)      (σ : MS)  : GE X Ω 2 0 0 (emWV) 0 0 50 [(0, .ref 0)] [] σ (b_X12_keepsAct_50  σ) := by
  unfold b_X12_keepsAct_50
  refine g_aload_n hX (dc_X12_keepsAct 27 rfl) rfl 0 rfl ?_
  refine g_aload_n hX (dc_X12_keepsAct 28 rfl) rfl 0 rfl ?_
  refine g_getI hX (dc_X12_keepsAct 29 rfl) fl_X12_348 (by decide) rfl (stS hΩ 0 rfl) ?_
  refine g_iconst (w := (0 : Int32)) hX (dc_X12_keepsAct 30 rfl) (by decide) ?_
  refine gV_WV (As := [.int (sI σ 0 51), .int (0 : Int32)]) (st := []) hX (dc_X12_keepsAct 31 rfl) ml_X12_444 (con_X12_movesAll hO hΩ (sI σ 0 51) (0 : Int32) σ) (stS hΩ 0 rfl) rfl rfl ⟨by decide, by decide⟩ ⟨rfl, rfl⟩ ⟨Nat.zero_le _, Nat.zero_le _⟩ (Nat.le_of_ble_eq_true rfl) (fun r6 _ => ?_)
  refine g_aload_n hX (dc_X12_keepsAct 32 rfl) rfl 0 rfl ?_
  refine g_dup hX (dc_X12_keepsAct 33 rfl) rfl ?_
  refine g_getI hX (dc_X12_keepsAct 34 rfl) fl_X12_348 (by decide) rfl (stS hΩ 0 rfl) ?_
  refine g_iconst (w := (1 : Int32)) hX (dc_X12_keepsAct 35 rfl) (by decide) ?_
  refine g_iadd hX (dc_X12_keepsAct 36 rfl) ?_
  refine g_putI (raw := false) hX (dc_X12_keepsAct 37 rfl) fl_X12_348 (by decide) ⟨rfl, rfl⟩ ⟨rfl, rfl⟩ (stS hΩ 0 rfl) ?_
  exact g_vret hX (dc_X12_keepsAct 38 rfl) rfl (Nat.le_refl _) (Nat.le_refl _)
def b_X12_keepsAct_12   : Nat → Int32 → MS → Option (MS)
  | 0, _, _ => none
  | n + 1, y1, σ => (if (380 : Int32) ≤ y1 then (b_X12_keepsAct_50 (wI σ 0 51 ((sI σ 0 51) - (1 : Int32)))) else chk (inb y1 380) (chk (inb (y1 - (19 : Int32)) 380) (((b_X12_keepsAct_12  n) ((y1 + (1 : Int32))) (wI σ 38 (ix (y1 - (19 : Int32))) (sI σ 38 (ix y1)))))))
set_option maxHeartbeats 4000000 in
set_option maxRecDepth 20000 in
theorem c_X12_keepsAct_12 {X : CX} {Ω : OM} (hX : CF X Ω RX12 cX12_keepsAct 2 none rm_X12_keepsAct) (hO : OKO Ω) (hΩ : oSH Ω = SHM)    : ∀ (n : Nat) (y1 : Int32) (σ : MS) , GE X Ω 2 0 0 (emWV) 0 0 12 [(0, .ref 0), (1, .int y1)] [] σ (b_X12_keepsAct_12  n y1 σ)
  | 0, _, _ => g_none
  | n + 1, y1, σ => by
    have hk12 := c_X12_keepsAct_12 hX hO hΩ  n
    unfold b_X12_keepsAct_12
    refine g_iload_n hX (dc_X12_keepsAct 6 rfl) rfl 1 rfl ?_
    refine g_sipush (w := (380 : Int32)) hX (dc_X12_keepsAct 7 rfl) (by decide) ?_
    refine g_icmp_ge (tgt := 40) hX (dc_X12_keepsAct 8 rfl) (by decide) (fun h7 => ?_) (fun h7 => ?_)
    · refine g_aload_n hX (dc_X12_keepsAct 21 rfl) rfl 0 rfl ?_
      refine g_dup hX (dc_X12_keepsAct 22 rfl) rfl ?_
      refine g_getI hX (dc_X12_keepsAct 23 rfl) fl_X12_348 (by decide) rfl (stS hΩ 0 rfl) ?_
      refine g_iconst (w := (1 : Int32)) hX (dc_X12_keepsAct 24 rfl) (by decide) ?_
      refine g_isub hX (dc_X12_keepsAct 25 rfl) ?_
      refine g_putI (raw := false) hX (dc_X12_keepsAct 26 rfl) fl_X12_348 (by decide) ⟨rfl, rfl⟩ ⟨rfl, rfl⟩ (stS hΩ 0 rfl) ?_
      exact g_sub [0] rfl (c_X12_keepsAct_50 hX hO hΩ (wI σ 0 51 ((sI σ 0 51) - (1 : Int32))))
    · refine g_aload_n hX (dc_X12_keepsAct 9 rfl) rfl 0 rfl ?_
      refine g_getF (q := 38) hX (dc_X12_keepsAct 10 rfl) fl_X12_127 (by decide) rfl (stS hΩ 0 rfl) rfl ?_
      refine g_iload_n hX (dc_X12_keepsAct 11 rfl) rfl 1 rfl ?_
      refine g_bipush (w := (19 : Int32)) hX (dc_X12_keepsAct 12 rfl) (by decide) ?_
      refine g_isub hX (dc_X12_keepsAct 13 rfl) ?_
      refine g_aload_n hX (dc_X12_keepsAct 14 rfl) rfl 0 rfl ?_
      refine g_getF (q := 38) hX (dc_X12_keepsAct 15 rfl) fl_X12_127 (by decide) rfl (stS hΩ 0 rfl) rfl ?_
      refine g_iload_n hX (dc_X12_keepsAct 16 rfl) rfl 1 rfl ?_
      refine g_chk (fun hc8 => ?_)
      refine g_iald hX (dc_X12_keepsAct 17 rfl) (stS hΩ 38 rfl) hc8 rfl ?_
      refine g_chk (fun hc9 => ?_)
      refine g_iast hX (dc_X12_keepsAct 18 rfl) (stS hΩ 38 rfl) hc9 rfl ?_
      refine g_iinc (w := (y1 + (1 : Int32))) (L' := [(1, .int (y1 + (1 : Int32))), (0, .ref 0)]) hX (dc_X12_keepsAct 19 rfl) 1 rfl rfl (by decide) rfl ?_
      refine g_goto (tgt := 12) hX (dc_X12_keepsAct 20 rfl) (by decide) ?_
      exact g_sub [1, 0] rfl (hk12 ((y1 + (1 : Int32))) (wI σ 38 (ix (y1 - (19 : Int32))) (sI σ 38 (ix y1))) )
def b_X12_keepsAct_0     (σ : MS) : Option (MS) := (if (sI σ 0 51) = (20 : Int32) then (b_X12_keepsAct_12 FU ((19 : Int32)) σ) else (b_X12_keepsAct_50 σ))
set_option maxHeartbeats 4000000 in
set_option maxRecDepth 20000 in
theorem c_X12_keepsAct_0 {X : CX} {Ω : OM} (hX : CF X Ω RX12 cX12_keepsAct 2 none rm_X12_keepsAct) (hO : OKO Ω) (hΩ : oSH Ω = SHM)      (σ : MS)  : GE X Ω 2 0 0 (emWV) 0 0 0 [(0, .ref 0)] [] σ (b_X12_keepsAct_0  σ) := by
  unfold b_X12_keepsAct_0
  refine g_aload_n hX (dc_X12_keepsAct 0 rfl) rfl 0 rfl ?_
  refine g_getI hX (dc_X12_keepsAct 1 rfl) fl_X12_348 (by decide) rfl (stS hΩ 0 rfl) ?_
  refine g_bipush (w := (20 : Int32)) hX (dc_X12_keepsAct 2 rfl) (by decide) ?_
  refine g_icmp_ne (tgt := 50) hX (dc_X12_keepsAct 3 rfl) (by decide) (fun h10 => ?_) (fun h10 => ?_)
  · refine g_bipush (w := (19 : Int32)) hX (dc_X12_keepsAct 4 rfl) (by decide) ?_
    refine g_istore_n (L' := [(1, .int (19 : Int32)), (0, .ref 0)]) hX (dc_X12_keepsAct 5 rfl) rfl (by decide) rfl ?_
    exact g_sub [1, 0] rfl (c_X12_keepsAct_12 hX hO hΩ FU ((19 : Int32)) σ)
  · exact g_sub [0] rfl (c_X12_keepsAct_50 hX hO hΩ σ)
def f_X12_keepsAct  (σ : MS) : Option (MS) := b_X12_keepsAct_0   σ
theorem con_X12_keepsAct {Ω : OM} (hO : OKO Ω) (hΩ : oSH Ω = SHM)  (σ : MS)  : Con Ω yX12_keepsAct cX12_keepsAct 2 none rm_X12_keepsAct (emWV) [.ref 0] σ (f_X12_keepsAct  σ) :=
  con_of hO (by decide +kernel) (Nat.le_of_ble_eq_true rfl) rfl (fun X hX _ => c_X12_keepsAct_0 hX hO hΩ    σ )
def it_X12_undo : List (Nat × Instr × Nat × Nat) := [(0, .aload_n 0, 1, 1), (1, .getfield 348, 3, 4), (4, .ifCond .ne 6, 3, 7), (7, .bipush (-2), 2, 9), (9, .ireturn, 1, 10), (10, .aload_n 0, 1, 11), (11, .dup, 1, 12), (12, .getfield 348, 3, 15), (15, .iconst 1, 1, 16), (16, .isub, 1, 17), (17, .putfield 348, 3, 20), (20, .aload_n 0, 1, 21), (21, .aload_n 0, 1, 22), (22, .getfield 348, 3, 25), (25, .iconst 1, 1, 26), (26, .invokevirtual 444, 3, 29), (29, .aload_n 0, 1, 30), (30, .getfield 348, 3, 33), (33, .ireturn, 1, 34)]
theorem id_X12_undo : ∀ q ∈ it_X12_undo, decode cX12_undo q.1 = .ok (q.2.1, q.2.2.1) ∧ q.1 + q.2.2.1 = q.2.2.2 := by decide +kernel
theorem dc_X12_undo {pc : Nat} {i : Instr} {n pc' : Nat} (j : Nat) (h : it_X12_undo[j]? = some (pc, i, n, pc')) : Dc cX12_undo pc i n pc' := dc_of id_X12_undo j h
abbrev rm_X12_undo : Room := { frames := 3, cells := 0, slots := 0, locals := 66 }
def b_X12_undo_0     (σ : MS) : Option (Int32 × MS) := (if (sI σ 0 51) = 0 then some ((-2 : Int32), σ) else (f_X12_movesAll (sI (wI σ 0 51 ((sI σ 0 51) - (1 : Int32))) 0 51) (1 : Int32) (wI σ 0 51 ((sI σ 0 51) - (1 : Int32)))).bind (fun r4 => some ((sI r4 0 51), r4)))
set_option maxHeartbeats 4000000 in
set_option maxRecDepth 20000 in
theorem c_X12_undo_0 {X : CX} {Ω : OM} (hX : CF X Ω RX12 cX12_undo 1 (some .int) rm_X12_undo) (hO : OKO Ω) (hΩ : oSH Ω = SHM)      (σ : MS)  : GE X Ω 1 0 0 (emWI) 0 0 0 [(0, .ref 0)] [] σ (b_X12_undo_0  σ) := by
  unfold b_X12_undo_0
  refine g_aload_n hX (dc_X12_undo 0 rfl) rfl 0 rfl ?_
  refine g_getI hX (dc_X12_undo 1 rfl) fl_X12_348 (by decide) rfl (stS hΩ 0 rfl) ?_
  refine g_if_ne (tgt := 10) hX (dc_X12_undo 2 rfl) (by decide) (fun h3 => ?_) (fun h3 => ?_)
  · refine g_bipush (w := (-2 : Int32)) hX (dc_X12_undo 3 rfl) (by decide) ?_
    exact g_iret hX (dc_X12_undo 4 rfl) rfl rfl (Nat.le_refl _) (Nat.le_refl _)
  · refine g_aload_n hX (dc_X12_undo 5 rfl) rfl 0 rfl ?_
    refine g_dup hX (dc_X12_undo 6 rfl) rfl ?_
    refine g_getI hX (dc_X12_undo 7 rfl) fl_X12_348 (by decide) rfl (stS hΩ 0 rfl) ?_
    refine g_iconst (w := (1 : Int32)) hX (dc_X12_undo 8 rfl) (by decide) ?_
    refine g_isub hX (dc_X12_undo 9 rfl) ?_
    refine g_putI (raw := false) hX (dc_X12_undo 10 rfl) fl_X12_348 (by decide) ⟨rfl, rfl⟩ ⟨rfl, rfl⟩ (stS hΩ 0 rfl) ?_
    refine g_aload_n hX (dc_X12_undo 11 rfl) rfl 0 rfl ?_
    refine g_aload_n hX (dc_X12_undo 12 rfl) rfl 0 rfl ?_
    refine g_getI hX (dc_X12_undo 13 rfl) fl_X12_348 (by decide) rfl (stS hΩ 0 rfl) ?_
    refine g_iconst (w := (1 : Int32)) hX (dc_X12_undo 14 rfl) (by decide) ?_
    refine gV_WV (As := [.int (sI (wI σ 0 51 ((sI σ 0 51) - (1 : Int32))) 0 51), .int (1 : Int32)]) (st := []) hX (dc_X12_undo 15 rfl) ml_X12_444 (con_X12_movesAll hO hΩ (sI (wI σ 0 51 ((sI σ 0 51) - (1 : Int32))) 0 51) (1 : Int32) (wI σ 0 51 ((sI σ 0 51) - (1 : Int32)))) (stS hΩ 0 rfl) rfl rfl ⟨by decide, by decide⟩ ⟨rfl, rfl⟩ ⟨Nat.zero_le _, Nat.zero_le _⟩ (Nat.le_of_ble_eq_true rfl) (fun r4 _ => ?_)
    refine g_aload_n hX (dc_X12_undo 16 rfl) rfl 0 rfl ?_
    refine g_getI hX (dc_X12_undo 17 rfl) fl_X12_348 (by decide) rfl (stS hΩ 0 rfl) ?_
    exact g_iret hX (dc_X12_undo 18 rfl) rfl rfl (Nat.le_refl _) (Nat.le_refl _)
def f_X12_undo  (σ : MS) : Option (Int32 × MS) := b_X12_undo_0   σ
theorem con_X12_undo {Ω : OM} (hO : OKO Ω) (hΩ : oSH Ω = SHM)  (σ : MS)  : Con Ω yX12_undo cX12_undo 1 (some .int) rm_X12_undo (emWI) [.ref 0] σ (f_X12_undo  σ) :=
  con_of hO (by decide +kernel) (Nat.le_of_ble_eq_true rfl) rfl (fun X hX _ => c_X12_undo_0 hX hO hΩ    σ )
def it_X12_hour : List (Nat × Instr × Nat × Nat) := [(0, .aload_n 0, 1, 1), (1, .getfield 341, 3, 4), (4, .ifCond .eq 15, 3, 7), (7, .aload_n 0, 1, 8), (8, .getfield 9, 3, 11), (11, .iconst 5, 1, 12), (12, .iaload, 1, 13), (13, .sipush 999, 3, 16), (16, .if_icmp .ne 5, 3, 19), (19, .iconst (-1), 1, 20), (20, .ireturn, 1, 21), (21, .aload_n 0, 1, 22), (22, .invokevirtual 448, 3, 25), (25, .aload_n 0, 1, 26), (26, .invokevirtual 428, 3, 29), (29, .ireturn, 1, 30)]
theorem id_X12_hour : ∀ q ∈ it_X12_hour, decode cX12_hour q.1 = .ok (q.2.1, q.2.2.1) ∧ q.1 + q.2.2.1 = q.2.2.2 := by decide +kernel
theorem dc_X12_hour {pc : Nat} {i : Instr} {n pc' : Nat} (j : Nat) (h : it_X12_hour[j]? = some (pc, i, n, pc')) : Dc cX12_hour pc i n pc' := dc_of id_X12_hour j h
abbrev rm_X12_hour : Room := { frames := 7, cells := 0, slots := 0, locals := 165 }
def b_X12_hour_19     (σ : MS) : Option (Int32 × MS) := some ((-1 : Int32), σ)
set_option maxHeartbeats 4000000 in
set_option maxRecDepth 20000 in
theorem c_X12_hour_19 {X : CX} {Ω : OM} (hX : CF X Ω RX12 cX12_hour 1 (some .int) rm_X12_hour) (hO : OKO Ω) (hΩ : oSH Ω = SHM)      (σ : MS)  : GE X Ω 1 0 0 (emWI) 0 0 19 [] [] σ (b_X12_hour_19  σ) := by
  unfold b_X12_hour_19
  refine g_iconst (w := (-1 : Int32)) hX (dc_X12_hour 9 rfl) (by decide) ?_
  exact g_iret hX (dc_X12_hour 10 rfl) rfl rfl (Nat.le_refl _) (Nat.le_refl _)
def b_X12_hour_0     (σ : MS) : Option (Int32 × MS) := (if (sI σ 0 28) = 0 then (b_X12_hour_19 σ) else (if (sI σ 1 5) = (999 : Int32) then (b_X12_hour_19 σ) else (f_X12_keepsAct σ).bind (fun r7 => (f_X12_goes r7).bind (fun r8 => some (r8.1, r8.2)))))
set_option maxHeartbeats 4000000 in
set_option maxRecDepth 20000 in
theorem c_X12_hour_0 {X : CX} {Ω : OM} (hX : CF X Ω RX12 cX12_hour 1 (some .int) rm_X12_hour) (hO : OKO Ω) (hΩ : oSH Ω = SHM)      (σ : MS)  : GE X Ω 1 0 0 (emWI) 0 0 0 [(0, .ref 0)] [] σ (b_X12_hour_0  σ) := by
  unfold b_X12_hour_0
  refine g_aload_n hX (dc_X12_hour 0 rfl) rfl 0 rfl ?_
  refine g_getI hX (dc_X12_hour 1 rfl) fl_X12_341 (by decide) rfl (stS hΩ 0 rfl) ?_
  refine g_if_eq (tgt := 19) hX (dc_X12_hour 2 rfl) (by decide) (fun h5 => ?_) (fun h5 => ?_)
  · exact g_sub [] rfl (c_X12_hour_19 hX hO hΩ σ)
  · refine g_aload_n hX (dc_X12_hour 3 rfl) rfl 0 rfl ?_
    refine g_getF (q := 1) hX (dc_X12_hour 4 rfl) fl_X12_9 (by decide) rfl (stS hΩ 0 rfl) rfl ?_
    refine g_iconst (w := (5 : Int32)) hX (dc_X12_hour 5 rfl) (by decide) ?_
    refine g_iald (j := 5) hX (dc_X12_hour 6 rfl) (stS hΩ 1 rfl) (by decide) (by decide) ?_
    refine g_sipush (w := (999 : Int32)) hX (dc_X12_hour 7 rfl) (by decide) ?_
    refine g_icmp_ne (tgt := 21) hX (dc_X12_hour 8 rfl) (by decide) (fun h6 => ?_) (fun h6 => ?_)
    · exact g_sub [] rfl (c_X12_hour_19 hX hO hΩ σ)
    · refine g_aload_n hX (dc_X12_hour 11 rfl) rfl 0 rfl ?_
      refine gV_WV (As := []) (st := []) hX (dc_X12_hour 12 rfl) ml_X12_448 (con_X12_keepsAct hO hΩ σ) (stS hΩ 0 rfl) rfl rfl ⟨by decide, by decide⟩ ⟨rfl, rfl⟩ ⟨Nat.zero_le _, Nat.zero_le _⟩ (Nat.le_of_ble_eq_true rfl) (fun r7 _ => ?_)
      refine g_aload_n hX (dc_X12_hour 13 rfl) rfl 0 rfl ?_
      refine gV_WI (As := []) (st := []) hX (dc_X12_hour 14 rfl) ml_X12_428 (con_X12_goes hO hΩ r7) (stS hΩ 0 rfl) rfl rfl ⟨by decide, by decide⟩ ⟨rfl, rfl⟩ ⟨Nat.zero_le _, Nat.zero_le _⟩ (Nat.le_of_ble_eq_true rfl) (fun r8 _ => ?_)
      exact g_iret hX (dc_X12_hour 15 rfl) rfl rfl (Nat.le_refl _) (Nat.le_refl _)
def f_X12_hour  (σ : MS) : Option (Int32 × MS) := b_X12_hour_0   σ
theorem con_X12_hour {Ω : OM} (hO : OKO Ω) (hΩ : oSH Ω = SHM)  (σ : MS)  : Con Ω yX12_hour cX12_hour 1 (some .int) rm_X12_hour (emWI) [.ref 0] σ (f_X12_hour  σ) :=
  con_of hO (by decide +kernel) (Nat.le_of_ble_eq_true rfl) rfl (fun X hX _ => c_X12_hour_0 hX hO hΩ    σ )
def it_X12_couldHold : List (Nat × Instr × Nat × Nat) := [(0, .aload_n 0, 1, 1), (1, .iload_n 1, 1, 2), (2, .invokevirtual 165, 3, 5), (5, .ifCond .eq 37, 3, 8), (8, .aload_n 0, 1, 9), (9, .iload_n 2, 1, 10), (10, .invokevirtual 393, 3, 13), (13, .ifCond .eq 29, 3, 16), (16, .aload_n 0, 1, 17), (17, .iload_n 2, 1, 18), (18, .aload_n 0, 1, 19), (19, .getfield 9, 3, 22), (22, .iconst 5, 1, 23), (23, .iaload, 1, 24), (24, .invokevirtual 381, 3, 27), (27, .ifCond .ne 15, 3, 30), (30, .aload_n 0, 1, 31), (31, .iload_n 2, 1, 32), (32, .invokevirtual 406, 3, 35), (35, .ifCond .eq 7, 3, 38), (38, .iconst 1, 1, 39), (39, .goto 4, 3, 42), (42, .iconst 0, 1, 43), (43, .ireturn, 1, 44)]
theorem id_X12_couldHold : ∀ q ∈ it_X12_couldHold, decode cX12_couldHold q.1 = .ok (q.2.1, q.2.2.1) ∧ q.1 + q.2.2.1 = q.2.2.2 := by decide +kernel
theorem dc_X12_couldHold {pc : Nat} {i : Instr} {n pc' : Nat} (j : Nat) (h : it_X12_couldHold[j]? = some (pc, i, n, pc')) : Dc cX12_couldHold pc i n pc' := dc_of id_X12_couldHold j h
abbrev rm_X12_couldHold : Room := { frames := 2, cells := 0, slots := 0, locals := 46 }
def b_X12_couldHold_43    (s0 : Int32) (σ : MS) : Option (Int32) := chk (s0 = 0 ∨ s0 = 1) (some s0)
set_option maxHeartbeats 4000000 in
set_option maxRecDepth 20000 in
theorem c_X12_couldHold_43 {X : CX} {Ω : OM} (hX : CF X Ω RX12 cX12_couldHold 3 (some .boolean) rm_X12_couldHold) (hO : OKO Ω) (hΩ : oSH Ω = SHM)   (σ : MS)   (s0 : Int32)   : GE X Ω 3 0 0 (emPI σ) 0 0 43 [] [.int s0] σ (b_X12_couldHold_43  s0 σ) := by
  unfold b_X12_couldHold_43
  refine g_chk (fun hc10 => ?_)
  exact g_iret hX (dc_X12_couldHold 23 rfl) (nz_bool hc10).1 rfl (Nat.le_refl _) (Nat.le_refl _)
def b_X12_couldHold_42     (σ : MS) : Option (Int32) := (b_X12_couldHold_43 ((0 : Int32)) σ)
set_option maxHeartbeats 4000000 in
set_option maxRecDepth 20000 in
theorem c_X12_couldHold_42 {X : CX} {Ω : OM} (hX : CF X Ω RX12 cX12_couldHold 3 (some .boolean) rm_X12_couldHold) (hO : OKO Ω) (hΩ : oSH Ω = SHM)   (σ : MS)      : GE X Ω 3 0 0 (emPI σ) 0 0 42 [] [] σ (b_X12_couldHold_42  σ) := by
  unfold b_X12_couldHold_42
  refine g_iconst (w := (0 : Int32)) hX (dc_X12_couldHold 22 rfl) (by decide) ?_
  exact g_sub [] rfl (c_X12_couldHold_43 hX hO hΩ σ ((0 : Int32)))
def b_X12_couldHold_0   (x1 : Int32) (x2 : Int32)  (σ : MS) : Option (Int32) := (f_X12_isWork x1 σ).bind (fun r11 => (if r11 = 0 then (b_X12_couldHold_42 σ) else (f_X12_isPerson x2 σ).bind (fun r13 => (if r13 = 0 then (b_X12_couldHold_42 σ) else (f_X12_isAsleep x2 (sI σ 1 5) σ).bind (fun r15 => (if r15 = 0 then (f_X12_hasHand x2 σ).bind (fun r17 => (if r17 = 0 then (b_X12_couldHold_42 σ) else (b_X12_couldHold_43 ((1 : Int32)) σ))) else (b_X12_couldHold_42 σ)))))))
set_option maxHeartbeats 4000000 in
set_option maxRecDepth 20000 in
theorem c_X12_couldHold_0 {X : CX} {Ω : OM} (hX : CF X Ω RX12 cX12_couldHold 3 (some .boolean) rm_X12_couldHold) (hO : OKO Ω) (hΩ : oSH Ω = SHM)   (σ : MS)  (x1 : Int32) (x2 : Int32)    : GE X Ω 3 0 0 (emPI σ) 0 0 0 [(0, .ref 0), (1, .int x1), (2, .int x2)] [] σ (b_X12_couldHold_0  x1 x2 σ) := by
  unfold b_X12_couldHold_0
  refine g_aload_n hX (dc_X12_couldHold 0 rfl) rfl 0 rfl ?_
  refine g_iload_n hX (dc_X12_couldHold 1 rfl) rfl 1 rfl ?_
  refine gV_PI (As := [.int x1]) (st := []) hX (dc_X12_couldHold 2 rfl) ml_X12_165 (con_X12_isWork hO hΩ x1 σ) (stS hΩ 0 rfl) rfl rfl ⟨by decide, by decide⟩ ⟨rfl, rfl⟩ ⟨Nat.zero_le _, Nat.zero_le _⟩ (Nat.le_of_ble_eq_true rfl) (fun r11 _ => ?_)
  refine g_if_eq (tgt := 42) hX (dc_X12_couldHold 3 rfl) (by decide) (fun h12 => ?_) (fun h12 => ?_)
  · exact g_sub [] rfl (c_X12_couldHold_42 hX hO hΩ σ)
  · refine g_aload_n hX (dc_X12_couldHold 4 rfl) rfl 0 rfl ?_
    refine g_iload_n hX (dc_X12_couldHold 5 rfl) rfl 2 rfl ?_
    refine gV_PI (As := [.int x2]) (st := []) hX (dc_X12_couldHold 6 rfl) ml_X12_393 (con_X12_isPerson hO hΩ x2 σ) (stS hΩ 0 rfl) rfl rfl ⟨by decide, by decide⟩ ⟨rfl, rfl⟩ ⟨Nat.zero_le _, Nat.zero_le _⟩ (Nat.le_of_ble_eq_true rfl) (fun r13 _ => ?_)
    refine g_if_eq (tgt := 42) hX (dc_X12_couldHold 7 rfl) (by decide) (fun h14 => ?_) (fun h14 => ?_)
    · exact g_sub [] rfl (c_X12_couldHold_42 hX hO hΩ σ)
    · refine g_aload_n hX (dc_X12_couldHold 8 rfl) rfl 0 rfl ?_
      refine g_iload_n hX (dc_X12_couldHold 9 rfl) rfl 2 rfl ?_
      refine g_aload_n hX (dc_X12_couldHold 10 rfl) rfl 0 rfl ?_
      refine g_getF (q := 1) hX (dc_X12_couldHold 11 rfl) fl_X12_9 (by decide) rfl (stS hΩ 0 rfl) rfl ?_
      refine g_iconst (w := (5 : Int32)) hX (dc_X12_couldHold 12 rfl) (by decide) ?_
      refine g_iald (j := 5) hX (dc_X12_couldHold 13 rfl) (stS hΩ 1 rfl) (by decide) (by decide) ?_
      refine gV_PI (As := [.int x2, .int (sI σ 1 5)]) (st := []) hX (dc_X12_couldHold 14 rfl) ml_X12_381 (con_X12_isAsleep hO hΩ x2 (sI σ 1 5) σ) (stS hΩ 0 rfl) rfl rfl ⟨by decide, by decide⟩ ⟨rfl, rfl⟩ ⟨Nat.zero_le _, Nat.zero_le _⟩ (Nat.le_of_ble_eq_true rfl) (fun r15 _ => ?_)
      refine g_if_ne (tgt := 42) hX (dc_X12_couldHold 15 rfl) (by decide) (fun h16 => ?_) (fun h16 => ?_)
      · refine g_aload_n hX (dc_X12_couldHold 16 rfl) rfl 0 rfl ?_
        refine g_iload_n hX (dc_X12_couldHold 17 rfl) rfl 2 rfl ?_
        refine gV_PI (As := [.int x2]) (st := []) hX (dc_X12_couldHold 18 rfl) ml_X12_406 (con_X12_hasHand hO hΩ x2 σ) (stS hΩ 0 rfl) rfl rfl ⟨by decide, by decide⟩ ⟨rfl, rfl⟩ ⟨Nat.zero_le _, Nat.zero_le _⟩ (Nat.le_of_ble_eq_true rfl) (fun r17 _ => ?_)
        refine g_if_eq (tgt := 42) hX (dc_X12_couldHold 19 rfl) (by decide) (fun h18 => ?_) (fun h18 => ?_)
        · exact g_sub [] rfl (c_X12_couldHold_42 hX hO hΩ σ)
        · refine g_iconst (w := (1 : Int32)) hX (dc_X12_couldHold 20 rfl) (by decide) ?_
          refine g_goto (tgt := 43) hX (dc_X12_couldHold 21 rfl) (by decide) ?_
          exact g_sub [] rfl (c_X12_couldHold_43 hX hO hΩ σ ((1 : Int32)))
      · exact g_sub [] rfl (c_X12_couldHold_42 hX hO hΩ σ)
def f_X12_couldHold (x1 : Int32) (x2 : Int32) (σ : MS) : Option (Int32) := b_X12_couldHold_0  x1 x2 σ
theorem con_X12_couldHold {Ω : OM} (hO : OKO Ω) (hΩ : oSH Ω = SHM) (x1 : Int32) (x2 : Int32) (σ : MS)  : Con Ω yX12_couldHold cX12_couldHold 3 (some .boolean) rm_X12_couldHold (emPI σ) [.ref 0, .int x1, .int x2] σ (f_X12_couldHold x1 x2 σ) :=
  con_of hO (by decide +kernel) (Nat.le_of_ble_eq_true rfl) rfl (fun X hX _ => c_X12_couldHold_0 hX hO hΩ   σ x1 x2)
def it_X12_begin : List (Nat × Instr × Nat × Nat) := [(0, .aload_n 0, 1, 1), (1, .iload_n 1, 1, 2), (2, .iload_n 2, 1, 3), (3, .invokevirtual 451, 3, 6), (6, .ifCond .eq 33, 3, 9), (9, .aload_n 0, 1, 10), (10, .getfield 34, 3, 13), (13, .iload_n 1, 1, 14), (14, .iaload, 1, 15), (15, .iconst (-1), 1, 16), (16, .if_icmp .ne 23, 3, 19), (19, .aload_n 0, 1, 20), (20, .getfield 19, 3, 23), (23, .iload_n 2, 1, 24), (24, .iaload, 1, 25), (25, .aload_n 0, 1, 26), (26, .getfield 13, 3, 29), (29, .aload_n 0, 1, 30), (30, .getfield 31, 3, 33), (33, .iload_n 1, 1, 34), (34, .iaload, 1, 35), (35, .iaload, 1, 36), (36, .if_icmp .ge 5, 3, 39), (39, .iconst (-1), 1, 40), (40, .ireturn, 1, 41), (41, .aload_n 0, 1, 42), (42, .invokevirtual 448, 3, 45), (45, .aload_n 0, 1, 46), (46, .getfield 19, 3, 49), (49, .iload_n 2, 1, 50), (50, .dup2, 1, 51), (51, .iaload, 1, 52), (52, .aload_n 0, 1, 53), (53, .getfield 13, 3, 56), (56, .aload_n 0, 1, 57), (57, .getfield 31, 3, 60), (60, .iload_n 1, 1, 61), (61, .iaload, 1, 62), (62, .iaload, 1, 63), (63, .isub, 1, 64), (64, .iastore, 1, 65), (65, .aload_n 0, 1, 66), (66, .getfield 9, 3, 69), (69, .iconst 1, 1, 70), (70, .aload_n 0, 1, 71), (71, .aload_n 0, 1, 72), (72, .getfield 13, 3, 75), (75, .aload_n 0, 1, 76), (76, .getfield 31, 3, 79), (79, .iload_n 1, 1, 80), (80, .iaload, 1, 81), (81, .iaload, 1, 82), (82, .invokevirtual 413, 3, 85), (85, .iastore, 1, 86), (86, .aload_n 0, 1, 87), (87, .getfield 34, 3, 90), (90, .iload_n 1, 1, 91), (91, .iload_n 2, 1, 92), (92, .iastore, 1, 93), (93, .aload_n 0, 1, 94), (94, .getfield 19, 3, 97), (97, .iload_n 2, 1, 98), (98, .iaload, 1, 99), (99, .ireturn, 1, 100)]
theorem id_X12_begin : ∀ q ∈ it_X12_begin, decode cX12_begin q.1 = .ok (q.2.1, q.2.2.1) ∧ q.1 + q.2.2.1 = q.2.2.2 := by decide +kernel
theorem dc_X12_begin {pc : Nat} {i : Instr} {n pc' : Nat} (j : Nat) (h : it_X12_begin[j]? = some (pc, i, n, pc')) : Dc cX12_begin pc i n pc' := dc_of id_X12_begin j h
abbrev rm_X12_begin : Room := { frames := 4, cells := 0, slots := 0, locals := 87 }
def b_X12_begin_39     (σ : MS) : Option (Int32 × MS) := some ((-1 : Int32), σ)
set_option maxHeartbeats 4000000 in
set_option maxRecDepth 20000 in
theorem c_X12_begin_39 {X : CX} {Ω : OM} (hX : CF X Ω RX12 cX12_begin 3 (some .int) rm_X12_begin) (hO : OKO Ω) (hΩ : oSH Ω = SHM)      (σ : MS)  : GE X Ω 3 0 0 (emWI) 0 0 39 [] [] σ (b_X12_begin_39  σ) := by
  unfold b_X12_begin_39
  refine g_iconst (w := (-1 : Int32)) hX (dc_X12_begin 23 rfl) (by decide) ?_
  exact g_iret hX (dc_X12_begin 24 rfl) rfl rfl (Nat.le_refl _) (Nat.le_refl _)
def b_X12_begin_0   (x1 : Int32) (x2 : Int32)  (σ : MS) : Option (Int32 × MS) := (f_X12_couldHold x1 x2 σ).bind (fun r19 => (if r19 = 0 then (b_X12_begin_39 σ) else chk (inb x1 6) ((if (sI σ 9 (ix x1)) = (-1 : Int32) then chk (inb x2 4) (chk (inb x1 6) (chk (inb (sI σ 8 (ix x1)) 5) ((if (sI σ 2 (ix (sI σ 8 (ix x1)))) ≤ (sI σ 4 (ix x2)) then (f_X12_keepsAct σ).bind (fun r27 => chk (inb x2 4) (chk (inb x1 6) (chk (inb (sI r27 8 (ix x1)) 5) (chk (inb x2 4) (chk (inb x1 6) (chk (inb (sI (wI r27 4 (ix x2) ((sI r27 4 (ix x2)) - (sI r27 2 (ix (sI r27 8 (ix x1)))))) 8 (ix x1)) 5) ((f_X12_into (sI (wI r27 4 (ix x2) ((sI r27 4 (ix x2)) - (sI r27 2 (ix (sI r27 8 (ix x1)))))) 2 (ix (sI (wI r27 4 (ix x2) ((sI r27 4 (ix x2)) - (sI r27 2 (ix (sI r27 8 (ix x1)))))) 8 (ix x1)))) (wI r27 4 (ix x2) ((sI r27 4 (ix x2)) - (sI r27 2 (ix (sI r27 8 (ix x1))))))).bind (fun r34 => chk (inb x1 6) (chk (inb x2 4) (some ((sI (wI (wI (wI r27 4 (ix x2) ((sI r27 4 (ix x2)) - (sI r27 2 (ix (sI r27 8 (ix x1)))))) 1 1 r34) 9 (ix x1) x2) 4 (ix x2)), (wI (wI (wI r27 4 (ix x2) ((sI r27 4 (ix x2)) - (sI r27 2 (ix (sI r27 8 (ix x1)))))) 1 1 r34) 9 (ix x1) x2)))))))))))) else (b_X12_begin_39 σ))))) else (b_X12_begin_39 σ)))))
set_option maxHeartbeats 4000000 in
set_option maxRecDepth 20000 in
theorem c_X12_begin_0 {X : CX} {Ω : OM} (hX : CF X Ω RX12 cX12_begin 3 (some .int) rm_X12_begin) (hO : OKO Ω) (hΩ : oSH Ω = SHM)    (x1 : Int32) (x2 : Int32)  (σ : MS)  : GE X Ω 3 0 0 (emWI) 0 0 0 [(0, .ref 0), (1, .int x1), (2, .int x2)] [] σ (b_X12_begin_0  x1 x2 σ) := by
  unfold b_X12_begin_0
  refine g_aload_n hX (dc_X12_begin 0 rfl) rfl 0 rfl ?_
  refine g_iload_n hX (dc_X12_begin 1 rfl) rfl 1 rfl ?_
  refine g_iload_n hX (dc_X12_begin 2 rfl) rfl 2 rfl ?_
  refine gV_PI (As := [.int x1, .int x2]) (st := []) hX (dc_X12_begin 3 rfl) ml_X12_451 (con_X12_couldHold hO hΩ x1 x2 σ) (stS hΩ 0 rfl) rfl rfl ⟨by decide, by decide⟩ ⟨rfl, rfl⟩ ⟨Nat.zero_le _, Nat.zero_le _⟩ (Nat.le_of_ble_eq_true rfl) (fun r19 _ => ?_)
  refine g_if_eq (tgt := 39) hX (dc_X12_begin 4 rfl) (by decide) (fun h20 => ?_) (fun h20 => ?_)
  · exact g_sub [] rfl (c_X12_begin_39 hX hO hΩ σ)
  · refine g_aload_n hX (dc_X12_begin 5 rfl) rfl 0 rfl ?_
    refine g_getF (q := 9) hX (dc_X12_begin 6 rfl) fl_X12_34 (by decide) rfl (stS hΩ 0 rfl) rfl ?_
    refine g_iload_n hX (dc_X12_begin 7 rfl) rfl 1 rfl ?_
    refine g_chk (fun hc21 => ?_)
    refine g_iald hX (dc_X12_begin 8 rfl) (stS hΩ 9 rfl) hc21 rfl ?_
    refine g_iconst (w := (-1 : Int32)) hX (dc_X12_begin 9 rfl) (by decide) ?_
    refine g_icmp_ne (tgt := 39) hX (dc_X12_begin 10 rfl) (by decide) (fun h22 => ?_) (fun h22 => ?_)
    · refine g_aload_n hX (dc_X12_begin 11 rfl) rfl 0 rfl ?_
      refine g_getF (q := 4) hX (dc_X12_begin 12 rfl) fl_X12_19 (by decide) rfl (stS hΩ 0 rfl) rfl ?_
      refine g_iload_n hX (dc_X12_begin 13 rfl) rfl 2 rfl ?_
      refine g_chk (fun hc23 => ?_)
      refine g_iald hX (dc_X12_begin 14 rfl) (stS hΩ 4 rfl) hc23 rfl ?_
      refine g_aload_n hX (dc_X12_begin 15 rfl) rfl 0 rfl ?_
      refine g_getF (q := 2) hX (dc_X12_begin 16 rfl) fl_X12_13 (by decide) rfl (stS hΩ 0 rfl) rfl ?_
      refine g_aload_n hX (dc_X12_begin 17 rfl) rfl 0 rfl ?_
      refine g_getF (q := 8) hX (dc_X12_begin 18 rfl) fl_X12_31 (by decide) rfl (stS hΩ 0 rfl) rfl ?_
      refine g_iload_n hX (dc_X12_begin 19 rfl) rfl 1 rfl ?_
      refine g_chk (fun hc24 => ?_)
      refine g_iald hX (dc_X12_begin 20 rfl) (stS hΩ 8 rfl) hc24 rfl ?_
      refine g_chk (fun hc25 => ?_)
      refine g_iald hX (dc_X12_begin 21 rfl) (stS hΩ 2 rfl) hc25 rfl ?_
      refine g_icmp_ge (tgt := 41) hX (dc_X12_begin 22 rfl) (by decide) (fun h26 => ?_) (fun h26 => ?_)
      · refine g_aload_n hX (dc_X12_begin 25 rfl) rfl 0 rfl ?_
        refine gV_WV (As := []) (st := []) hX (dc_X12_begin 26 rfl) ml_X12_448 (con_X12_keepsAct hO hΩ σ) (stS hΩ 0 rfl) rfl rfl ⟨by decide, by decide⟩ ⟨rfl, rfl⟩ ⟨Nat.zero_le _, Nat.zero_le _⟩ (Nat.le_of_ble_eq_true rfl) (fun r27 _ => ?_)
        refine g_aload_n hX (dc_X12_begin 27 rfl) rfl 0 rfl ?_
        refine g_getF (q := 4) hX (dc_X12_begin 28 rfl) fl_X12_19 (by decide) rfl (stS hΩ 0 rfl) rfl ?_
        refine g_iload_n hX (dc_X12_begin 29 rfl) rfl 2 rfl ?_
        refine g_dup2 hX (dc_X12_begin 30 rfl) rfl rfl ?_
        refine g_chk (fun hc28 => ?_)
        refine g_iald hX (dc_X12_begin 31 rfl) (stS hΩ 4 rfl) hc28 rfl ?_
        refine g_aload_n hX (dc_X12_begin 32 rfl) rfl 0 rfl ?_
        refine g_getF (q := 2) hX (dc_X12_begin 33 rfl) fl_X12_13 (by decide) rfl (stS hΩ 0 rfl) rfl ?_
        refine g_aload_n hX (dc_X12_begin 34 rfl) rfl 0 rfl ?_
        refine g_getF (q := 8) hX (dc_X12_begin 35 rfl) fl_X12_31 (by decide) rfl (stS hΩ 0 rfl) rfl ?_
        refine g_iload_n hX (dc_X12_begin 36 rfl) rfl 1 rfl ?_
        refine g_chk (fun hc29 => ?_)
        refine g_iald hX (dc_X12_begin 37 rfl) (stS hΩ 8 rfl) hc29 rfl ?_
        refine g_chk (fun hc30 => ?_)
        refine g_iald hX (dc_X12_begin 38 rfl) (stS hΩ 2 rfl) hc30 rfl ?_
        refine g_isub hX (dc_X12_begin 39 rfl) ?_
        refine g_chk (fun hc31 => ?_)
        refine g_iast hX (dc_X12_begin 40 rfl) (stS hΩ 4 rfl) hc31 rfl ?_
        refine g_aload_n hX (dc_X12_begin 41 rfl) rfl 0 rfl ?_
        refine g_getF (q := 1) hX (dc_X12_begin 42 rfl) fl_X12_9 (by decide) rfl (stS hΩ 0 rfl) rfl ?_
        refine g_iconst (w := (1 : Int32)) hX (dc_X12_begin 43 rfl) (by decide) ?_
        refine g_aload_n hX (dc_X12_begin 44 rfl) rfl 0 rfl ?_
        refine g_aload_n hX (dc_X12_begin 45 rfl) rfl 0 rfl ?_
        refine g_getF (q := 2) hX (dc_X12_begin 46 rfl) fl_X12_13 (by decide) rfl (stS hΩ 0 rfl) rfl ?_
        refine g_aload_n hX (dc_X12_begin 47 rfl) rfl 0 rfl ?_
        refine g_getF (q := 8) hX (dc_X12_begin 48 rfl) fl_X12_31 (by decide) rfl (stS hΩ 0 rfl) rfl ?_
        refine g_iload_n hX (dc_X12_begin 49 rfl) rfl 1 rfl ?_
        refine g_chk (fun hc32 => ?_)
        refine g_iald hX (dc_X12_begin 50 rfl) (stS hΩ 8 rfl) hc32 rfl ?_
        refine g_chk (fun hc33 => ?_)
        refine g_iald hX (dc_X12_begin 51 rfl) (stS hΩ 2 rfl) hc33 rfl ?_
        refine gV_PI (As := [.int (sI (wI r27 4 (ix x2) ((sI r27 4 (ix x2)) - (sI r27 2 (ix (sI r27 8 (ix x1)))))) 2 (ix (sI (wI r27 4 (ix x2) ((sI r27 4 (ix x2)) - (sI r27 2 (ix (sI r27 8 (ix x1)))))) 8 (ix x1))))]) (st := [.int (1 : Int32), .ref 1]) hX (dc_X12_begin 52 rfl) ml_X12_413 (con_X12_into hO hΩ (sI (wI r27 4 (ix x2) ((sI r27 4 (ix x2)) - (sI r27 2 (ix (sI r27 8 (ix x1)))))) 2 (ix (sI (wI r27 4 (ix x2) ((sI r27 4 (ix x2)) - (sI r27 2 (ix (sI r27 8 (ix x1)))))) 8 (ix x1)))) (wI r27 4 (ix x2) ((sI r27 4 (ix x2)) - (sI r27 2 (ix (sI r27 8 (ix x1))))))) (stS hΩ 0 rfl) rfl rfl ⟨by decide, by decide⟩ ⟨rfl, rfl⟩ ⟨Nat.zero_le _, Nat.zero_le _⟩ (Nat.le_of_ble_eq_true rfl) (fun r34 _ => ?_)
        refine g_iast (j := 1) hX (dc_X12_begin 53 rfl) (stS hΩ 1 rfl) (by decide) (by decide) ?_
        refine g_aload_n hX (dc_X12_begin 54 rfl) rfl 0 rfl ?_
        refine g_getF (q := 9) hX (dc_X12_begin 55 rfl) fl_X12_34 (by decide) rfl (stS hΩ 0 rfl) rfl ?_
        refine g_iload_n hX (dc_X12_begin 56 rfl) rfl 1 rfl ?_
        refine g_iload_n hX (dc_X12_begin 57 rfl) rfl 2 rfl ?_
        refine g_chk (fun hc35 => ?_)
        refine g_iast hX (dc_X12_begin 58 rfl) (stS hΩ 9 rfl) hc35 rfl ?_
        refine g_aload_n hX (dc_X12_begin 59 rfl) rfl 0 rfl ?_
        refine g_getF (q := 4) hX (dc_X12_begin 60 rfl) fl_X12_19 (by decide) rfl (stS hΩ 0 rfl) rfl ?_
        refine g_iload_n hX (dc_X12_begin 61 rfl) rfl 2 rfl ?_
        refine g_chk (fun hc36 => ?_)
        refine g_iald hX (dc_X12_begin 62 rfl) (stS hΩ 4 rfl) hc36 rfl ?_
        exact g_iret hX (dc_X12_begin 63 rfl) rfl rfl (Nat.le_refl _) (Nat.le_refl _)
      · exact g_sub [] rfl (c_X12_begin_39 hX hO hΩ σ)
    · exact g_sub [] rfl (c_X12_begin_39 hX hO hΩ σ)
def f_X12_begin (x1 : Int32) (x2 : Int32) (σ : MS) : Option (Int32 × MS) := b_X12_begin_0  x1 x2 σ
theorem con_X12_begin {Ω : OM} (hO : OKO Ω) (hΩ : oSH Ω = SHM) (x1 : Int32) (x2 : Int32) (σ : MS)  : Con Ω yX12_begin cX12_begin 3 (some .int) rm_X12_begin (emWI) [.ref 0, .int x1, .int x2] σ (f_X12_begin x1 x2 σ) :=
  con_of hO (by decide +kernel) (Nat.le_of_ble_eq_true rfl) rfl (fun X hX _ => c_X12_begin_0 hX hO hΩ   x1 x2 σ )
def it_X12_sneak : List (Nat × Instr × Nat × Nat) := [(0, .aload_n 0, 1, 1), (1, .iload_n 1, 1, 2), (2, .iload_n 2, 1, 3), (3, .invokevirtual 451, 3, 6), (6, .ifCond .eq 13, 3, 9), (9, .aload_n 0, 1, 10), (10, .getfield 34, 3, 13), (13, .iload_n 1, 1, 14), (14, .iaload, 1, 15), (15, .iconst (-1), 1, 16), (16, .if_icmp .eq 5, 3, 19), (19, .iconst (-1), 1, 20), (20, .ireturn, 1, 21), (21, .aload_n 0, 1, 22), (22, .invokevirtual 448, 3, 25), (25, .aload_n 0, 1, 26), (26, .getfield 34, 3, 29), (29, .iload_n 1, 1, 30), (30, .iload_n 2, 1, 31), (31, .iastore, 1, 32), (32, .aload_n 0, 1, 33), (33, .getfield 9, 3, 36), (36, .bipush 6, 2, 38), (38, .dup2, 1, 39), (39, .iaload, 1, 40), (40, .iconst 1, 1, 41), (41, .iload_n 1, 1, 42), (42, .ishl, 1, 43), (43, .ior, 1, 44), (44, .iastore, 1, 45), (45, .aload_n 0, 1, 46), (46, .getfield 9, 3, 49), (49, .bipush 6, 2, 51), (51, .iaload, 1, 52), (52, .ireturn, 1, 53)]
theorem id_X12_sneak : ∀ q ∈ it_X12_sneak, decode cX12_sneak q.1 = .ok (q.2.1, q.2.2.1) ∧ q.1 + q.2.2.1 = q.2.2.2 := by decide +kernel
theorem dc_X12_sneak {pc : Nat} {i : Instr} {n pc' : Nat} (j : Nat) (h : it_X12_sneak[j]? = some (pc, i, n, pc')) : Dc cX12_sneak pc i n pc' := dc_of id_X12_sneak j h
abbrev rm_X12_sneak : Room := { frames := 4, cells := 0, slots := 0, locals := 87 }
def b_X12_sneak_19     (σ : MS) : Option (Int32 × MS) := some ((-1 : Int32), σ)
set_option maxHeartbeats 4000000 in
set_option maxRecDepth 20000 in
theorem c_X12_sneak_19 {X : CX} {Ω : OM} (hX : CF X Ω RX12 cX12_sneak 3 (some .int) rm_X12_sneak) (hO : OKO Ω) (hΩ : oSH Ω = SHM)      (σ : MS)  : GE X Ω 3 0 0 (emWI) 0 0 19 [] [] σ (b_X12_sneak_19  σ) := by
  unfold b_X12_sneak_19
  refine g_iconst (w := (-1 : Int32)) hX (dc_X12_sneak 11 rfl) (by decide) ?_
  exact g_iret hX (dc_X12_sneak 12 rfl) rfl rfl (Nat.le_refl _) (Nat.le_refl _)
def b_X12_sneak_0   (x1 : Int32) (x2 : Int32)  (σ : MS) : Option (Int32 × MS) := (f_X12_couldHold x1 x2 σ).bind (fun r7 => (if r7 = 0 then (b_X12_sneak_19 σ) else chk (inb x1 6) ((if (sI σ 9 (ix x1)) = (-1 : Int32) then (f_X12_keepsAct σ).bind (fun r11 => chk (inb x1 6) (some ((sI (wI (wI r11 9 (ix x1) x2) 1 6 ((sI (wI r11 9 (ix x1) x2) 1 6) ||| ((1 : Int32) <<< (x1 &&& 31)))) 1 6), (wI (wI r11 9 (ix x1) x2) 1 6 ((sI (wI r11 9 (ix x1) x2) 1 6) ||| ((1 : Int32) <<< (x1 &&& 31))))))) else (b_X12_sneak_19 σ)))))
set_option maxHeartbeats 4000000 in
set_option maxRecDepth 20000 in
theorem c_X12_sneak_0 {X : CX} {Ω : OM} (hX : CF X Ω RX12 cX12_sneak 3 (some .int) rm_X12_sneak) (hO : OKO Ω) (hΩ : oSH Ω = SHM)    (x1 : Int32) (x2 : Int32)  (σ : MS)  : GE X Ω 3 0 0 (emWI) 0 0 0 [(0, .ref 0), (1, .int x1), (2, .int x2)] [] σ (b_X12_sneak_0  x1 x2 σ) := by
  unfold b_X12_sneak_0
  refine g_aload_n hX (dc_X12_sneak 0 rfl) rfl 0 rfl ?_
  refine g_iload_n hX (dc_X12_sneak 1 rfl) rfl 1 rfl ?_
  refine g_iload_n hX (dc_X12_sneak 2 rfl) rfl 2 rfl ?_
  refine gV_PI (As := [.int x1, .int x2]) (st := []) hX (dc_X12_sneak 3 rfl) ml_X12_451 (con_X12_couldHold hO hΩ x1 x2 σ) (stS hΩ 0 rfl) rfl rfl ⟨by decide, by decide⟩ ⟨rfl, rfl⟩ ⟨Nat.zero_le _, Nat.zero_le _⟩ (Nat.le_of_ble_eq_true rfl) (fun r7 _ => ?_)
  refine g_if_eq (tgt := 19) hX (dc_X12_sneak 4 rfl) (by decide) (fun h8 => ?_) (fun h8 => ?_)
  · exact g_sub [] rfl (c_X12_sneak_19 hX hO hΩ σ)
  · refine g_aload_n hX (dc_X12_sneak 5 rfl) rfl 0 rfl ?_
    refine g_getF (q := 9) hX (dc_X12_sneak 6 rfl) fl_X12_34 (by decide) rfl (stS hΩ 0 rfl) rfl ?_
    refine g_iload_n hX (dc_X12_sneak 7 rfl) rfl 1 rfl ?_
    refine g_chk (fun hc9 => ?_)
    refine g_iald hX (dc_X12_sneak 8 rfl) (stS hΩ 9 rfl) hc9 rfl ?_
    refine g_iconst (w := (-1 : Int32)) hX (dc_X12_sneak 9 rfl) (by decide) ?_
    refine g_icmp_eq (tgt := 21) hX (dc_X12_sneak 10 rfl) (by decide) (fun h10 => ?_) (fun h10 => ?_)
    · refine g_aload_n hX (dc_X12_sneak 13 rfl) rfl 0 rfl ?_
      refine gV_WV (As := []) (st := []) hX (dc_X12_sneak 14 rfl) ml_X12_448 (con_X12_keepsAct hO hΩ σ) (stS hΩ 0 rfl) rfl rfl ⟨by decide, by decide⟩ ⟨rfl, rfl⟩ ⟨Nat.zero_le _, Nat.zero_le _⟩ (Nat.le_of_ble_eq_true rfl) (fun r11 _ => ?_)
      refine g_aload_n hX (dc_X12_sneak 15 rfl) rfl 0 rfl ?_
      refine g_getF (q := 9) hX (dc_X12_sneak 16 rfl) fl_X12_34 (by decide) rfl (stS hΩ 0 rfl) rfl ?_
      refine g_iload_n hX (dc_X12_sneak 17 rfl) rfl 1 rfl ?_
      refine g_iload_n hX (dc_X12_sneak 18 rfl) rfl 2 rfl ?_
      refine g_chk (fun hc12 => ?_)
      refine g_iast hX (dc_X12_sneak 19 rfl) (stS hΩ 9 rfl) hc12 rfl ?_
      refine g_aload_n hX (dc_X12_sneak 20 rfl) rfl 0 rfl ?_
      refine g_getF (q := 1) hX (dc_X12_sneak 21 rfl) fl_X12_9 (by decide) rfl (stS hΩ 0 rfl) rfl ?_
      refine g_bipush (w := (6 : Int32)) hX (dc_X12_sneak 22 rfl) (by decide) ?_
      refine g_dup2 hX (dc_X12_sneak 23 rfl) rfl rfl ?_
      refine g_iald (j := 6) hX (dc_X12_sneak 24 rfl) (stS hΩ 1 rfl) (by decide) (by decide) ?_
      refine g_iconst (w := (1 : Int32)) hX (dc_X12_sneak 25 rfl) (by decide) ?_
      refine g_iload_n hX (dc_X12_sneak 26 rfl) rfl 1 rfl ?_
      refine g_ishl hX (dc_X12_sneak 27 rfl) ?_
      refine g_ior hX (dc_X12_sneak 28 rfl) ?_
      refine g_iast (j := 6) hX (dc_X12_sneak 29 rfl) (stS hΩ 1 rfl) (by decide) (by decide) ?_
      refine g_aload_n hX (dc_X12_sneak 30 rfl) rfl 0 rfl ?_
      refine g_getF (q := 1) hX (dc_X12_sneak 31 rfl) fl_X12_9 (by decide) rfl (stS hΩ 0 rfl) rfl ?_
      refine g_bipush (w := (6 : Int32)) hX (dc_X12_sneak 32 rfl) (by decide) ?_
      refine g_iald (j := 6) hX (dc_X12_sneak 33 rfl) (stS hΩ 1 rfl) (by decide) (by decide) ?_
      exact g_iret hX (dc_X12_sneak 34 rfl) rfl rfl (Nat.le_refl _) (Nat.le_refl _)
    · exact g_sub [] rfl (c_X12_sneak_19 hX hO hΩ σ)
def f_X12_sneak (x1 : Int32) (x2 : Int32) (σ : MS) : Option (Int32 × MS) := b_X12_sneak_0  x1 x2 σ
theorem con_X12_sneak {Ω : OM} (hO : OKO Ω) (hΩ : oSH Ω = SHM) (x1 : Int32) (x2 : Int32) (σ : MS)  : Con Ω yX12_sneak cX12_sneak 3 (some .int) rm_X12_sneak (emWI) [.ref 0, .int x1, .int x2] σ (f_X12_sneak x1 x2 σ) :=
  con_of hO (by decide +kernel) (Nat.le_of_ble_eq_true rfl) rfl (fun X hX _ => c_X12_sneak_0 hX hO hΩ   x1 x2 σ )
def it_X12_hand : List (Nat × Instr × Nat × Nat) := [(0, .aload_n 0, 1, 1), (1, .iload_n 1, 1, 2), (2, .iload_n 2, 1, 3), (3, .invokevirtual 451, 3, 6), (6, .ifCond .eq 42, 3, 9), (9, .aload_n 0, 1, 10), (10, .getfield 34, 3, 13), (13, .iload_n 1, 1, 14), (14, .iaload, 1, 15), (15, .iconst (-1), 1, 16), (16, .if_icmp .eq 32, 3, 19), (19, .aload_n 0, 1, 20), (20, .getfield 34, 3, 23), (23, .iload_n 1, 1, 24), (24, .iaload, 1, 25), (25, .iload_n 2, 1, 26), (26, .if_icmp .eq 22, 3, 29), (29, .aload_n 0, 1, 30), (30, .aload_n 0, 1, 31), (31, .getfield 34, 3, 34), (34, .iload_n 1, 1, 35), (35, .iaload, 1, 36), (36, .aload_n 0, 1, 37), (37, .getfield 9, 3, 40), (40, .iconst 5, 1, 41), (41, .iaload, 1, 42), (42, .invokevirtual 381, 3, 45), (45, .ifCond .eq 5, 3, 48), (48, .iconst (-1), 1, 49), (49, .ireturn, 1, 50), (50, .aload_n 0, 1, 51), (51, .invokevirtual 448, 3, 54), (54, .aload_n 0, 1, 55), (55, .getfield 34, 3, 58), (58, .iload_n 1, 1, 59), (59, .iaload, 1, 60), (60, .istore_n 3, 1, 61), (61, .aload_n 0, 1, 62), (62, .getfield 34, 3, 65), (65, .iload_n 1, 1, 66), (66, .iload_n 2, 1, 67), (67, .iastore, 1, 68), (68, .iload_n 3, 1, 69), (69, .ireturn, 1, 70)]
theorem id_X12_hand : ∀ q ∈ it_X12_hand, decode cX12_hand q.1 = .ok (q.2.1, q.2.2.1) ∧ q.1 + q.2.2.1 = q.2.2.2 := by decide +kernel
theorem dc_X12_hand {pc : Nat} {i : Instr} {n pc' : Nat} (j : Nat) (h : it_X12_hand[j]? = some (pc, i, n, pc')) : Dc cX12_hand pc i n pc' := dc_of id_X12_hand j h
abbrev rm_X12_hand : Room := { frames := 4, cells := 0, slots := 0, locals := 87 }
def b_X12_hand_48     (σ : MS) : Option (Int32 × MS) := some ((-1 : Int32), σ)
set_option maxHeartbeats 4000000 in
set_option maxRecDepth 20000 in
theorem c_X12_hand_48 {X : CX} {Ω : OM} (hX : CF X Ω RX12 cX12_hand 4 (some .int) rm_X12_hand) (hO : OKO Ω) (hΩ : oSH Ω = SHM)      (σ : MS)  : GE X Ω 4 0 0 (emWI) 0 0 48 [] [] σ (b_X12_hand_48  σ) := by
  unfold b_X12_hand_48
  refine g_iconst (w := (-1 : Int32)) hX (dc_X12_hand 28 rfl) (by decide) ?_
  exact g_iret hX (dc_X12_hand 29 rfl) rfl rfl (Nat.le_refl _) (Nat.le_refl _)
def b_X12_hand_0   (x1 : Int32) (x2 : Int32)  (σ : MS) : Option (Int32 × MS) := (f_X12_couldHold x1 x2 σ).bind (fun r13 => (if r13 = 0 then (b_X12_hand_48 σ) else chk (inb x1 6) ((if (sI σ 9 (ix x1)) = (-1 : Int32) then (b_X12_hand_48 σ) else chk (inb x1 6) ((if (sI σ 9 (ix x1)) = x2 then (b_X12_hand_48 σ) else chk (inb x1 6) ((f_X12_isAsleep (sI σ 9 (ix x1)) (sI σ 1 5) σ).bind (fun r20 => (if r20 = 0 then (f_X12_keepsAct σ).bind (fun r22 => chk (inb x1 6) (chk (inb x1 6) (some ((sI r22 9 (ix x1)), (wI r22 9 (ix x1) x2))))) else (b_X12_hand_48 σ))))))))))
set_option maxHeartbeats 4000000 in
set_option maxRecDepth 20000 in
theorem c_X12_hand_0 {X : CX} {Ω : OM} (hX : CF X Ω RX12 cX12_hand 4 (some .int) rm_X12_hand) (hO : OKO Ω) (hΩ : oSH Ω = SHM)    (x1 : Int32) (x2 : Int32)  (σ : MS)  : GE X Ω 4 0 0 (emWI) 0 0 0 [(0, .ref 0), (1, .int x1), (2, .int x2)] [] σ (b_X12_hand_0  x1 x2 σ) := by
  unfold b_X12_hand_0
  refine g_aload_n hX (dc_X12_hand 0 rfl) rfl 0 rfl ?_
  refine g_iload_n hX (dc_X12_hand 1 rfl) rfl 1 rfl ?_
  refine g_iload_n hX (dc_X12_hand 2 rfl) rfl 2 rfl ?_
  refine gV_PI (As := [.int x1, .int x2]) (st := []) hX (dc_X12_hand 3 rfl) ml_X12_451 (con_X12_couldHold hO hΩ x1 x2 σ) (stS hΩ 0 rfl) rfl rfl ⟨by decide, by decide⟩ ⟨rfl, rfl⟩ ⟨Nat.zero_le _, Nat.zero_le _⟩ (Nat.le_of_ble_eq_true rfl) (fun r13 _ => ?_)
  refine g_if_eq (tgt := 48) hX (dc_X12_hand 4 rfl) (by decide) (fun h14 => ?_) (fun h14 => ?_)
  · exact g_sub [] rfl (c_X12_hand_48 hX hO hΩ σ)
  · refine g_aload_n hX (dc_X12_hand 5 rfl) rfl 0 rfl ?_
    refine g_getF (q := 9) hX (dc_X12_hand 6 rfl) fl_X12_34 (by decide) rfl (stS hΩ 0 rfl) rfl ?_
    refine g_iload_n hX (dc_X12_hand 7 rfl) rfl 1 rfl ?_
    refine g_chk (fun hc15 => ?_)
    refine g_iald hX (dc_X12_hand 8 rfl) (stS hΩ 9 rfl) hc15 rfl ?_
    refine g_iconst (w := (-1 : Int32)) hX (dc_X12_hand 9 rfl) (by decide) ?_
    refine g_icmp_eq (tgt := 48) hX (dc_X12_hand 10 rfl) (by decide) (fun h16 => ?_) (fun h16 => ?_)
    · exact g_sub [] rfl (c_X12_hand_48 hX hO hΩ σ)
    · refine g_aload_n hX (dc_X12_hand 11 rfl) rfl 0 rfl ?_
      refine g_getF (q := 9) hX (dc_X12_hand 12 rfl) fl_X12_34 (by decide) rfl (stS hΩ 0 rfl) rfl ?_
      refine g_iload_n hX (dc_X12_hand 13 rfl) rfl 1 rfl ?_
      refine g_chk (fun hc17 => ?_)
      refine g_iald hX (dc_X12_hand 14 rfl) (stS hΩ 9 rfl) hc17 rfl ?_
      refine g_iload_n hX (dc_X12_hand 15 rfl) rfl 2 rfl ?_
      refine g_icmp_eq (tgt := 48) hX (dc_X12_hand 16 rfl) (by decide) (fun h18 => ?_) (fun h18 => ?_)
      · exact g_sub [] rfl (c_X12_hand_48 hX hO hΩ σ)
      · refine g_aload_n hX (dc_X12_hand 17 rfl) rfl 0 rfl ?_
        refine g_aload_n hX (dc_X12_hand 18 rfl) rfl 0 rfl ?_
        refine g_getF (q := 9) hX (dc_X12_hand 19 rfl) fl_X12_34 (by decide) rfl (stS hΩ 0 rfl) rfl ?_
        refine g_iload_n hX (dc_X12_hand 20 rfl) rfl 1 rfl ?_
        refine g_chk (fun hc19 => ?_)
        refine g_iald hX (dc_X12_hand 21 rfl) (stS hΩ 9 rfl) hc19 rfl ?_
        refine g_aload_n hX (dc_X12_hand 22 rfl) rfl 0 rfl ?_
        refine g_getF (q := 1) hX (dc_X12_hand 23 rfl) fl_X12_9 (by decide) rfl (stS hΩ 0 rfl) rfl ?_
        refine g_iconst (w := (5 : Int32)) hX (dc_X12_hand 24 rfl) (by decide) ?_
        refine g_iald (j := 5) hX (dc_X12_hand 25 rfl) (stS hΩ 1 rfl) (by decide) (by decide) ?_
        refine gV_PI (As := [.int (sI σ 9 (ix x1)), .int (sI σ 1 5)]) (st := []) hX (dc_X12_hand 26 rfl) ml_X12_381 (con_X12_isAsleep hO hΩ (sI σ 9 (ix x1)) (sI σ 1 5) σ) (stS hΩ 0 rfl) rfl rfl ⟨by decide, by decide⟩ ⟨rfl, rfl⟩ ⟨Nat.zero_le _, Nat.zero_le _⟩ (Nat.le_of_ble_eq_true rfl) (fun r20 _ => ?_)
        refine g_if_eq (tgt := 50) hX (dc_X12_hand 27 rfl) (by decide) (fun h21 => ?_) (fun h21 => ?_)
        · refine g_aload_n hX (dc_X12_hand 30 rfl) rfl 0 rfl ?_
          refine gV_WV (As := []) (st := []) hX (dc_X12_hand 31 rfl) ml_X12_448 (con_X12_keepsAct hO hΩ σ) (stS hΩ 0 rfl) rfl rfl ⟨by decide, by decide⟩ ⟨rfl, rfl⟩ ⟨Nat.zero_le _, Nat.zero_le _⟩ (Nat.le_of_ble_eq_true rfl) (fun r22 _ => ?_)
          refine g_aload_n hX (dc_X12_hand 32 rfl) rfl 0 rfl ?_
          refine g_getF (q := 9) hX (dc_X12_hand 33 rfl) fl_X12_34 (by decide) rfl (stS hΩ 0 rfl) rfl ?_
          refine g_iload_n hX (dc_X12_hand 34 rfl) rfl 1 rfl ?_
          refine g_chk (fun hc23 => ?_)
          refine g_iald hX (dc_X12_hand 35 rfl) (stS hΩ 9 rfl) hc23 rfl ?_
          refine g_istore_n (L' := [(3, .int (sI r22 9 (ix x1))), (0, .ref 0), (1, .int x1), (2, .int x2)]) hX (dc_X12_hand 36 rfl) rfl (by decide) rfl ?_
          refine g_aload_n hX (dc_X12_hand 37 rfl) rfl 1 rfl ?_
          refine g_getF (q := 9) hX (dc_X12_hand 38 rfl) fl_X12_34 (by decide) rfl (stS hΩ 0 rfl) rfl ?_
          refine g_iload_n hX (dc_X12_hand 39 rfl) rfl 2 rfl ?_
          refine g_iload_n hX (dc_X12_hand 40 rfl) rfl 3 rfl ?_
          refine g_chk (fun hc24 => ?_)
          refine g_iast hX (dc_X12_hand 41 rfl) (stS hΩ 9 rfl) hc24 rfl ?_
          refine g_iload_n hX (dc_X12_hand 42 rfl) rfl 0 rfl ?_
          exact g_iret hX (dc_X12_hand 43 rfl) rfl rfl (Nat.le_refl _) (Nat.le_refl _)
        · exact g_sub [] rfl (c_X12_hand_48 hX hO hΩ σ)
def f_X12_hand (x1 : Int32) (x2 : Int32) (σ : MS) : Option (Int32 × MS) := b_X12_hand_0  x1 x2 σ
theorem con_X12_hand {Ω : OM} (hO : OKO Ω) (hΩ : oSH Ω = SHM) (x1 : Int32) (x2 : Int32) (σ : MS)  : Con Ω yX12_hand cX12_hand 4 (some .int) rm_X12_hand (emWI) [.ref 0, .int x1, .int x2] σ (f_X12_hand x1 x2 σ) :=
  con_of hO (by decide +kernel) (Nat.le_of_ble_eq_true rfl) rfl (fun X hX _ => c_X12_hand_0 hX hO hΩ   x1 x2 σ )
def it_X12_drop : List (Nat × Instr × Nat × Nat) := [(0, .aload_n 0, 1, 1), (1, .iload_n 1, 1, 2), (2, .invokevirtual 454, 3, 5), (5, .ifCond .ne 5, 3, 8), (8, .iconst (-1), 1, 9), (9, .ireturn, 1, 10), (10, .aload_n 0, 1, 11), (11, .invokevirtual 448, 3, 14), (14, .aload_n 0, 1, 15), (15, .getfield 34, 3, 18), (18, .iload_n 1, 1, 19), (19, .iaload, 1, 20), (20, .istore_n 2, 1, 21), (21, .aload_n 0, 1, 22), (22, .iload_n 1, 1, 23), (23, .invokevirtual 419, 3, 26), (26, .iload_n 2, 1, 27), (27, .ireturn, 1, 28)]
theorem id_X12_drop : ∀ q ∈ it_X12_drop, decode cX12_drop q.1 = .ok (q.2.1, q.2.2.1) ∧ q.1 + q.2.2.1 = q.2.2.2 := by decide +kernel
theorem dc_X12_drop {pc : Nat} {i : Instr} {n pc' : Nat} (j : Nat) (h : it_X12_drop[j]? = some (pc, i, n, pc')) : Dc cX12_drop pc i n pc' := dc_of id_X12_drop j h
abbrev rm_X12_drop : Room := { frames := 4, cells := 0, slots := 0, locals := 87 }
def b_X12_drop_0   (x1 : Int32)  (σ : MS) : Option (Int32 × MS) := (f_X12_doesGo x1 σ).bind (fun r6 => (if r6 = 0 then some ((-1 : Int32), σ) else (f_X12_keepsAct σ).bind (fun r8 => chk (inb x1 6) ((f_X12_drops x1 r8).bind (fun r10 => some ((sI r8 9 (ix x1)), r10))))))
set_option maxHeartbeats 4000000 in
set_option maxRecDepth 20000 in
theorem c_X12_drop_0 {X : CX} {Ω : OM} (hX : CF X Ω RX12 cX12_drop 3 (some .int) rm_X12_drop) (hO : OKO Ω) (hΩ : oSH Ω = SHM)    (x1 : Int32)  (σ : MS)  : GE X Ω 3 0 0 (emWI) 0 0 0 [(0, .ref 0), (1, .int x1)] [] σ (b_X12_drop_0  x1 σ) := by
  unfold b_X12_drop_0
  refine g_aload_n hX (dc_X12_drop 0 rfl) rfl 0 rfl ?_
  refine g_iload_n hX (dc_X12_drop 1 rfl) rfl 1 rfl ?_
  refine gV_PI (As := [.int x1]) (st := []) hX (dc_X12_drop 2 rfl) ml_X12_454 (con_X12_doesGo hO hΩ x1 σ) (stS hΩ 0 rfl) rfl rfl ⟨by decide, by decide⟩ ⟨rfl, rfl⟩ ⟨Nat.zero_le _, Nat.zero_le _⟩ (Nat.le_of_ble_eq_true rfl) (fun r6 _ => ?_)
  refine g_if_ne (tgt := 10) hX (dc_X12_drop 3 rfl) (by decide) (fun h7 => ?_) (fun h7 => ?_)
  · refine g_iconst (w := (-1 : Int32)) hX (dc_X12_drop 4 rfl) (by decide) ?_
    exact g_iret hX (dc_X12_drop 5 rfl) rfl rfl (Nat.le_refl _) (Nat.le_refl _)
  · refine g_aload_n hX (dc_X12_drop 6 rfl) rfl 0 rfl ?_
    refine gV_WV (As := []) (st := []) hX (dc_X12_drop 7 rfl) ml_X12_448 (con_X12_keepsAct hO hΩ σ) (stS hΩ 0 rfl) rfl rfl ⟨by decide, by decide⟩ ⟨rfl, rfl⟩ ⟨Nat.zero_le _, Nat.zero_le _⟩ (Nat.le_of_ble_eq_true rfl) (fun r8 _ => ?_)
    refine g_aload_n hX (dc_X12_drop 8 rfl) rfl 0 rfl ?_
    refine g_getF (q := 9) hX (dc_X12_drop 9 rfl) fl_X12_34 (by decide) rfl (stS hΩ 0 rfl) rfl ?_
    refine g_iload_n hX (dc_X12_drop 10 rfl) rfl 1 rfl ?_
    refine g_chk (fun hc9 => ?_)
    refine g_iald hX (dc_X12_drop 11 rfl) (stS hΩ 9 rfl) hc9 rfl ?_
    refine g_istore_n (L' := [(2, .int (sI r8 9 (ix x1))), (0, .ref 0), (1, .int x1)]) hX (dc_X12_drop 12 rfl) rfl (by decide) rfl ?_
    refine g_aload_n hX (dc_X12_drop 13 rfl) rfl 1 rfl ?_
    refine g_iload_n hX (dc_X12_drop 14 rfl) rfl 2 rfl ?_
    refine gV_WV (As := [.int x1]) (st := []) hX (dc_X12_drop 15 rfl) ml_X12_419 (con_X12_drops hO hΩ x1 r8) (stS hΩ 0 rfl) rfl rfl ⟨by decide, by decide⟩ ⟨rfl, rfl⟩ ⟨Nat.zero_le _, Nat.zero_le _⟩ (Nat.le_of_ble_eq_true rfl) (fun r10 _ => ?_)
    refine g_iload_n hX (dc_X12_drop 16 rfl) rfl 0 rfl ?_
    exact g_iret hX (dc_X12_drop 17 rfl) rfl rfl (Nat.le_refl _) (Nat.le_refl _)
def f_X12_drop (x1 : Int32) (σ : MS) : Option (Int32 × MS) := b_X12_drop_0  x1 σ
theorem con_X12_drop {Ω : OM} (hO : OKO Ω) (hΩ : oSH Ω = SHM) (x1 : Int32) (σ : MS)  : Con Ω yX12_drop cX12_drop 3 (some .int) rm_X12_drop (emWI) [.ref 0, .int x1] σ (f_X12_drop x1 σ) :=
  con_of hO (by decide +kernel) (Nat.le_of_ble_eq_true rfl) rfl (fun X hX _ => c_X12_drop_0 hX hO hΩ   x1 σ )
def it_X12_carryRow : List (Nat × Instr × Nat × Nat) := [(0, .iconst 0, 1, 1), (1, .istore_n 2, 1, 2), (2, .iload_n 2, 1, 3), (3, .aload_n 1, 1, 4), (4, .arraylength, 1, 5), (5, .if_icmp .ge 53, 3, 8), (8, .aload_n 0, 1, 9), (9, .getfield 517, 3, 12), (12, .ifCond .eq 18, 3, 15), (15, .aload_n 1, 1, 16), (16, .iload_n 2, 1, 17), (17, .aload_n 0, 1, 18), (18, .getfield 148, 3, 21), (21, .aload_n 0, 1, 22), (22, .getfield 520, 3, 25), (25, .iaload, 1, 26), (26, .iastore, 1, 27), (27, .goto 15, 3, 30), (30, .aload_n 0, 1, 31), (31, .getfield 148, 3, 34), (34, .aload_n 0, 1, 35), (35, .getfield 520, 3, 38), (38, .aload_n 1, 1, 39), (39, .iload_n 2, 1, 40), (40, .iaload, 1, 41), (41, .iastore, 1, 42), (42, .aload_n 0, 1, 43), (43, .dup, 1, 44), (44, .getfield 520, 3, 47), (47, .iconst 1, 1, 48), (48, .iadd, 1, 49), (49, .putfield 520, 3, 52), (52, .iinc 2 1, 3, 55), (55, .goto (-53), 3, 58), (58, .return_, 1, 59)]
theorem id_X12_carryRow : ∀ q ∈ it_X12_carryRow, decode cX12_carryRow q.1 = .ok (q.2.1, q.2.2.1) ∧ q.1 + q.2.2.1 = q.2.2.2 := by decide +kernel
theorem dc_X12_carryRow {pc : Nat} {i : Instr} {n pc' : Nat} (j : Nat) (h : it_X12_carryRow[j]? = some (pc, i, n, pc')) : Dc cX12_carryRow pc i n pc' := dc_of id_X12_carryRow j h
abbrev rm_X12_carryRow : Room := { frames := 0, cells := 0, slots := 0, locals := 0 }
def b_X12_carryRow_42 (a1 : Nat) (n1 : Nat) (k2 : Int32 → MS → Option (MS))  (y2 : Int32) (σ : MS) : Option (MS) := (k2 ((y2 + (1 : Int32))) (wI σ 0 62 ((sI σ 0 62) + (1 : Int32))))
set_option maxHeartbeats 4000000 in
set_option maxRecDepth 20000 in
theorem c_X12_carryRow_42 {X : CX} {Ω : OM} (hX : CF X Ω RX12 cX12_carryRow 3 none rm_X12_carryRow) (hO : OKO Ω) (hΩ : oSH Ω = SHM) (a1 : Nat) (n1 : Nat) (ha1 : (oSH Ω)[a1]? = some (0, n1)) (k2 : Int32 → MS → Option (MS)) (hk2 : ∀ (y2 : Int32) (σ : MS) , GE X Ω 3 0 0 (emWV) 0 0 2 [(0, .ref 0), (1, .ref a1), (2, .int y2)] [] σ (k2 y2 σ))  (y2 : Int32) (σ : MS)  : GE X Ω 3 0 0 (emWV) 0 0 42 [(0, .ref 0), (1, .ref a1), (2, .int y2)] [] σ (b_X12_carryRow_42 a1 n1 k2 y2 σ) := by
  unfold b_X12_carryRow_42
  refine g_aload_n hX (dc_X12_carryRow 26 rfl) rfl 0 rfl ?_
  refine g_dup hX (dc_X12_carryRow 27 rfl) rfl ?_
  refine g_getI hX (dc_X12_carryRow 28 rfl) fl_X12_520 (by decide) rfl (stS hΩ 0 rfl) ?_
  refine g_iconst (w := (1 : Int32)) hX (dc_X12_carryRow 29 rfl) (by decide) ?_
  refine g_iadd hX (dc_X12_carryRow 30 rfl) ?_
  refine g_putI (raw := false) hX (dc_X12_carryRow 31 rfl) fl_X12_520 (by decide) ⟨rfl, rfl⟩ ⟨rfl, rfl⟩ (stS hΩ 0 rfl) ?_
  refine g_iinc (w := (y2 + (1 : Int32))) (L' := [(2, .int (y2 + (1 : Int32))), (0, .ref 0), (1, .ref a1)]) hX (dc_X12_carryRow 32 rfl) 2 rfl rfl (by decide) rfl ?_
  refine g_goto (tgt := 2) hX (dc_X12_carryRow 33 rfl) (by decide) ?_
  exact g_sub [1, 2, 0] rfl (hk2 ((y2 + (1 : Int32))) (wI σ 0 62 ((sI σ 0 62) + (1 : Int32))) )
def b_X12_carryRow_2 (a1 : Nat) (n1 : Nat)  : Nat → Int32 → MS → Option (MS)
  | 0, _, _ => none
  | n + 1, y2, σ => (if (Int32.ofNat n1) ≤ y2 then some (σ) else (if (sI σ 0 63) = 0 then chk (inb y2 n1) (chk (inb (sI σ 0 62) 2750) ((b_X12_carryRow_42 a1 n1 (b_X12_carryRow_2 a1 n1 n) (y2) (wI σ 45 (ix (sI σ 0 62)) (sI σ a1 (ix y2)))))) else chk (inb (sI σ 0 62) 2750) (chk (inb y2 n1) ((b_X12_carryRow_42 a1 n1 (b_X12_carryRow_2 a1 n1 n) (y2) (wI σ a1 (ix y2) (sI σ 45 (ix (sI σ 0 62)))))))))
set_option maxHeartbeats 4000000 in
set_option maxRecDepth 20000 in
theorem c_X12_carryRow_2 {X : CX} {Ω : OM} (hX : CF X Ω RX12 cX12_carryRow 3 none rm_X12_carryRow) (hO : OKO Ω) (hΩ : oSH Ω = SHM) (a1 : Nat) (n1 : Nat) (ha1 : (oSH Ω)[a1]? = some (0, n1))  : ∀ (n : Nat) (y2 : Int32) (σ : MS) , GE X Ω 3 0 0 (emWV) 0 0 2 [(0, .ref 0), (1, .ref a1), (2, .int y2)] [] σ (b_X12_carryRow_2 a1 n1 n y2 σ)
  | 0, _, _ => g_none
  | n + 1, y2, σ => by
    have hk2 := c_X12_carryRow_2 hX hO hΩ a1 n1 ha1 n
    unfold b_X12_carryRow_2
    refine g_iload_n hX (dc_X12_carryRow 2 rfl) rfl 2 rfl ?_
    refine g_aload_n hX (dc_X12_carryRow 3 rfl) rfl 1 rfl ?_
    refine g_alen (w := (Int32.ofNat n1)) hX (dc_X12_carryRow 4 rfl) (Or.inl ha1) (by decide) rfl ?_
    refine g_icmp_ge (tgt := 58) hX (dc_X12_carryRow 5 rfl) (by decide) (fun h7 => ?_) (fun h7 => ?_)
    · exact g_vret hX (dc_X12_carryRow 34 rfl) rfl (Nat.le_refl _) (Nat.le_refl _)
    · refine g_aload_n hX (dc_X12_carryRow 6 rfl) rfl 0 rfl ?_
      refine g_getI hX (dc_X12_carryRow 7 rfl) fl_X12_517 (by decide) rfl (stS hΩ 0 rfl) ?_
      refine g_if_eq (tgt := 30) hX (dc_X12_carryRow 8 rfl) (by decide) (fun h8 => ?_) (fun h8 => ?_)
      · refine g_aload_n hX (dc_X12_carryRow 18 rfl) rfl 0 rfl ?_
        refine g_getF (q := 45) hX (dc_X12_carryRow 19 rfl) fl_X12_148 (by decide) rfl (stS hΩ 0 rfl) rfl ?_
        refine g_aload_n hX (dc_X12_carryRow 20 rfl) rfl 0 rfl ?_
        refine g_getI hX (dc_X12_carryRow 21 rfl) fl_X12_520 (by decide) rfl (stS hΩ 0 rfl) ?_
        refine g_aload_n hX (dc_X12_carryRow 22 rfl) rfl 1 rfl ?_
        refine g_iload_n hX (dc_X12_carryRow 23 rfl) rfl 2 rfl ?_
        refine g_chk (fun hc9 => ?_)
        refine g_iald hX (dc_X12_carryRow 24 rfl) (Or.inl ha1) hc9 rfl ?_
        refine g_chk (fun hc10 => ?_)
        refine g_iast hX (dc_X12_carryRow 25 rfl) (stS hΩ 45 rfl) hc10 rfl ?_
        exact g_sub [0, 1, 2] rfl (c_X12_carryRow_42 hX hO hΩ a1 n1 ha1 _ hk2 (y2) (wI σ 45 (ix (sI σ 0 62)) (sI σ a1 (ix y2))))
      · refine g_aload_n hX (dc_X12_carryRow 9 rfl) rfl 1 rfl ?_
        refine g_iload_n hX (dc_X12_carryRow 10 rfl) rfl 2 rfl ?_
        refine g_aload_n hX (dc_X12_carryRow 11 rfl) rfl 0 rfl ?_
        refine g_getF (q := 45) hX (dc_X12_carryRow 12 rfl) fl_X12_148 (by decide) rfl (stS hΩ 0 rfl) rfl ?_
        refine g_aload_n hX (dc_X12_carryRow 13 rfl) rfl 0 rfl ?_
        refine g_getI hX (dc_X12_carryRow 14 rfl) fl_X12_520 (by decide) rfl (stS hΩ 0 rfl) ?_
        refine g_chk (fun hc11 => ?_)
        refine g_iald hX (dc_X12_carryRow 15 rfl) (stS hΩ 45 rfl) hc11 rfl ?_
        refine g_chk (fun hc12 => ?_)
        refine g_iast hX (dc_X12_carryRow 16 rfl) (Or.inl ha1) hc12 rfl ?_
        refine g_goto (tgt := 42) hX (dc_X12_carryRow 17 rfl) (by decide) ?_
        exact g_sub [0, 1, 2] rfl (c_X12_carryRow_42 hX hO hΩ a1 n1 ha1 _ hk2 (y2) (wI σ a1 (ix y2) (sI σ 45 (ix (sI σ 0 62)))))
def b_X12_carryRow_0 (a1 : Nat) (n1 : Nat)    (σ : MS) : Option (MS) := (b_X12_carryRow_2 a1 n1 FU ((0 : Int32)) σ)
set_option maxHeartbeats 4000000 in
set_option maxRecDepth 20000 in
theorem c_X12_carryRow_0 {X : CX} {Ω : OM} (hX : CF X Ω RX12 cX12_carryRow 3 none rm_X12_carryRow) (hO : OKO Ω) (hΩ : oSH Ω = SHM) (a1 : Nat) (n1 : Nat) (ha1 : (oSH Ω)[a1]? = some (0, n1))    (σ : MS)  : GE X Ω 3 0 0 (emWV) 0 0 0 [(0, .ref 0), (1, .ref a1)] [] σ (b_X12_carryRow_0 a1 n1 σ) := by
  unfold b_X12_carryRow_0
  refine g_iconst (w := (0 : Int32)) hX (dc_X12_carryRow 0 rfl) (by decide) ?_
  refine g_istore_n (L' := [(2, .int (0 : Int32)), (0, .ref 0), (1, .ref a1)]) hX (dc_X12_carryRow 1 rfl) rfl (by decide) rfl ?_
  exact g_sub [1, 2, 0] rfl (c_X12_carryRow_2 hX hO hΩ a1 n1 ha1 FU ((0 : Int32)) σ)
def f_X12_carryRow (a1 : Nat) (n1 : Nat) (σ : MS) : Option (MS) := b_X12_carryRow_0 a1 n1  σ
theorem con_X12_carryRow {Ω : OM} (hO : OKO Ω) (hΩ : oSH Ω = SHM) (a1 : Nat) (n1 : Nat) (σ : MS) (ha1 : (oSH Ω)[a1]? = some (0, n1)) : Con Ω yX12_carryRow cX12_carryRow 3 none rm_X12_carryRow (emWV) [.ref 0, .ref a1] σ (f_X12_carryRow a1 n1 σ) :=
  con_of hO (by decide +kernel) (Nat.le_of_ble_eq_true rfl) rfl (fun X hX _ => c_X12_carryRow_0 hX hO hΩ a1 n1 ha1  σ )
def it_X12_carriesAll : List (Nat × Instr × Nat × Nat) := [(0, .aload_n 0, 1, 1), (1, .sipush 550, 3, 4), (4, .iload_n 1, 1, 5), (5, .imul, 1, 6), (6, .putfield 520, 3, 9), (9, .aload_n 0, 1, 10), (10, .iload_n 2, 1, 11), (11, .putfield 517, 3, 14), (14, .aload_n 0, 1, 15), (15, .aload_n 0, 1, 16), (16, .getfield 9, 3, 19), (19, .invokevirtual 523, 3, 22), (22, .aload_n 0, 1, 23), (23, .aload_n 0, 1, 24), (24, .getfield 19, 3, 27), (27, .invokevirtual 523, 3, 30), (30, .aload_n 0, 1, 31), (31, .aload_n 0, 1, 32), (32, .getfield 34, 3, 35), (35, .invokevirtual 523, 3, 38), (38, .aload_n 0, 1, 39), (39, .aload_n 0, 1, 40), (40, .getfield 37, 3, 43), (43, .invokevirtual 523, 3, 46), (46, .iload_n 1, 1, 47), (47, .iconst 4, 1, 48), (48, .if_icmp .ne 4, 3, 51), (51, .return_, 1, 52), (52, .aload_n 0, 1, 53), (53, .getfield 130, 3, 56), (56, .iconst 0, 1, 57), (57, .aload_n 0, 1, 58), (58, .getfield 348, 3, 61), (61, .iastore, 1, 62), (62, .aload_n 0, 1, 63), (63, .aload_n 0, 1, 64), (64, .getfield 130, 3, 67), (67, .invokevirtual 523, 3, 70), (70, .aload_n 0, 1, 71), (71, .aload_n 0, 1, 72), (72, .getfield 130, 3, 75), (75, .iconst 0, 1, 76), (76, .iaload, 1, 77), (77, .putfield 348, 3, 80), (80, .aload_n 0, 1, 81), (81, .aload_n 0, 1, 82), (82, .getfield 13, 3, 85), (85, .invokevirtual 523, 3, 88), (88, .aload_n 0, 1, 89), (89, .aload_n 0, 1, 90), (90, .getfield 16, 3, 93), (93, .invokevirtual 523, 3, 96), (96, .aload_n 0, 1, 97), (97, .aload_n 0, 1, 98), (98, .getfield 22, 3, 101), (101, .invokevirtual 523, 3, 104), (104, .aload_n 0, 1, 105), (105, .aload_n 0, 1, 106), (106, .getfield 25, 3, 109), (109, .invokevirtual 523, 3, 112), (112, .aload_n 0, 1, 113), (113, .aload_n 0, 1, 114), (114, .getfield 28, 3, 117), (117, .invokevirtual 523, 3, 120), (120, .aload_n 0, 1, 121), (121, .aload_n 0, 1, 122), (122, .getfield 31, 3, 125), (125, .invokevirtual 523, 3, 128), (128, .aload_n 0, 1, 129), (129, .aload_n 0, 1, 130), (130, .getfield 40, 3, 133), (133, .invokevirtual 523, 3, 136), (136, .aload_n 0, 1, 137), (137, .aload_n 0, 1, 138), (138, .getfield 43, 3, 141), (141, .invokevirtual 523, 3, 144), (144, .aload_n 0, 1, 145), (145, .aload_n 0, 1, 146), (146, .getfield 46, 3, 149), (149, .invokevirtual 523, 3, 152), (152, .aload_n 0, 1, 153), (153, .aload_n 0, 1, 154), (154, .getfield 49, 3, 157), (157, .invokevirtual 523, 3, 160), (160, .aload_n 0, 1, 161), (161, .aload_n 0, 1, 162), (162, .getfield 52, 3, 165), (165, .invokevirtual 523, 3, 168), (168, .aload_n 0, 1, 169), (169, .aload_n 0, 1, 170), (170, .getfield 55, 3, 173), (173, .invokevirtual 523, 3, 176), (176, .aload_n 0, 1, 177), (177, .aload_n 0, 1, 178), (178, .getfield 58, 3, 181), (181, .invokevirtual 523, 3, 184), (184, .aload_n 0, 1, 185), (185, .aload_n 0, 1, 186), (186, .getfield 127, 3, 189), (189, .invokevirtual 523, 3, 192), (192, .return_, 1, 193)]
theorem id_X12_carriesAll : ∀ q ∈ it_X12_carriesAll, decode cX12_carriesAll q.1 = .ok (q.2.1, q.2.2.1) ∧ q.1 + q.2.2.1 = q.2.2.2 := by decide +kernel
theorem dc_X12_carriesAll {pc : Nat} {i : Instr} {n pc' : Nat} (j : Nat) (h : it_X12_carriesAll[j]? = some (pc, i, n, pc')) : Dc cX12_carriesAll pc i n pc' := dc_of id_X12_carriesAll j h
abbrev rm_X12_carriesAll : Room := { frames := 1, cells := 0, slots := 0, locals := 22 }
def b_X12_carriesAll_0   (x1 : Int32) (x2 : Int32)  (σ : MS) : Option (MS) := chk (x2 = 0 ∨ x2 = 1) ((f_X12_carryRow 1 10 (wI (wI σ 0 62 ((550 : Int32) * x1)) 0 63 x2)).bind (fun r23 => (f_X12_carryRow 4 4 r23).bind (fun r24 => (f_X12_carryRow 9 6 r24).bind (fun r25 => (f_X12_carryRow 10 6 r25).bind (fun r26 => (if x1 = (4 : Int32) then some (r26) else (f_X12_carryRow 39 1 (wI r26 39 0 (sI r26 0 51))).bind (fun r28 => (f_X12_carryRow 2 5 (wI r28 0 51 (sI r28 39 0))).bind (fun r29 => (f_X12_carryRow 3 5 r29).bind (fun r30 => (f_X12_carryRow 5 4 r30).bind (fun r31 => (f_X12_carryRow 6 4 r31).bind (fun r32 => (f_X12_carryRow 7 4 r32).bind (fun r33 => (f_X12_carryRow 8 6 r33).bind (fun r34 => (f_X12_carryRow 11 6 r34).bind (fun r35 => (f_X12_carryRow 12 10 r35).bind (fun r36 => (f_X12_carryRow 13 10 r36).bind (fun r37 => (f_X12_carryRow 14 10 r37).bind (fun r38 => (f_X12_carryRow 15 4 r38).bind (fun r39 => (f_X12_carryRow 16 6 r39).bind (fun r40 => (f_X12_carryRow 17 1 r40).bind (fun r41 => (f_X12_carryRow 38 380 r41).bind (fun r42 => some (r42))))))))))))))))))))))
set_option maxHeartbeats 4000000 in
set_option maxRecDepth 20000 in
theorem c_X12_carriesAll_0 {X : CX} {Ω : OM} (hX : CF X Ω RX12 cX12_carriesAll 3 none rm_X12_carriesAll) (hO : OKO Ω) (hΩ : oSH Ω = SHM)    (x1 : Int32) (x2 : Int32)  (σ : MS)  : GE X Ω 3 0 0 (emWV) 0 0 0 [(0, .ref 0), (1, .int x1), (2, .int x2)] [] σ (b_X12_carriesAll_0  x1 x2 σ) := by
  unfold b_X12_carriesAll_0
  refine g_aload_n hX (dc_X12_carriesAll 0 rfl) rfl 0 rfl ?_
  refine g_sipush (w := (550 : Int32)) hX (dc_X12_carriesAll 1 rfl) (by decide) ?_
  refine g_iload_n hX (dc_X12_carriesAll 2 rfl) rfl 1 rfl ?_
  refine g_imul hX (dc_X12_carriesAll 3 rfl) ?_
  refine g_putI (raw := false) hX (dc_X12_carriesAll 4 rfl) fl_X12_520 (by decide) ⟨rfl, rfl⟩ ⟨rfl, rfl⟩ (stS hΩ 0 rfl) ?_
  refine g_aload_n hX (dc_X12_carriesAll 5 rfl) rfl 0 rfl ?_
  refine g_iload_n hX (dc_X12_carriesAll 6 rfl) rfl 2 rfl ?_
  refine g_chk (fun hc22 => ?_)
  refine g_putI (raw := false) hX (dc_X12_carriesAll 7 rfl) fl_X12_517 (by decide) ⟨rfl, rfl⟩ (nz_bool hc22) (stS hΩ 0 rfl) ?_
  refine g_aload_n hX (dc_X12_carriesAll 8 rfl) rfl 0 rfl ?_
  refine g_aload_n hX (dc_X12_carriesAll 9 rfl) rfl 0 rfl ?_
  refine g_getF (q := 1) hX (dc_X12_carriesAll 10 rfl) fl_X12_9 (by decide) rfl (stS hΩ 0 rfl) rfl ?_
  refine gV_WV (As := [.ref 1]) (st := []) hX (dc_X12_carriesAll 11 rfl) ml_X12_523 (con_X12_carryRow hO hΩ 1 10 (wI (wI σ 0 62 ((550 : Int32) * x1)) 0 63 x2) (by rw [hΩ]; rfl)) (stS hΩ 0 rfl) rfl rfl ⟨by decide, by decide⟩ ⟨rfl, rfl⟩ ⟨Nat.zero_le _, Nat.zero_le _⟩ (Nat.le_of_ble_eq_true rfl) (fun r23 _ => ?_)
  refine g_aload_n hX (dc_X12_carriesAll 12 rfl) rfl 0 rfl ?_
  refine g_aload_n hX (dc_X12_carriesAll 13 rfl) rfl 0 rfl ?_
  refine g_getF (q := 4) hX (dc_X12_carriesAll 14 rfl) fl_X12_19 (by decide) rfl (stS hΩ 0 rfl) rfl ?_
  refine gV_WV (As := [.ref 4]) (st := []) hX (dc_X12_carriesAll 15 rfl) ml_X12_523 (con_X12_carryRow hO hΩ 4 4 r23 (by rw [hΩ]; rfl)) (stS hΩ 0 rfl) rfl rfl ⟨by decide, by decide⟩ ⟨rfl, rfl⟩ ⟨Nat.zero_le _, Nat.zero_le _⟩ (Nat.le_of_ble_eq_true rfl) (fun r24 _ => ?_)
  refine g_aload_n hX (dc_X12_carriesAll 16 rfl) rfl 0 rfl ?_
  refine g_aload_n hX (dc_X12_carriesAll 17 rfl) rfl 0 rfl ?_
  refine g_getF (q := 9) hX (dc_X12_carriesAll 18 rfl) fl_X12_34 (by decide) rfl (stS hΩ 0 rfl) rfl ?_
  refine gV_WV (As := [.ref 9]) (st := []) hX (dc_X12_carriesAll 19 rfl) ml_X12_523 (con_X12_carryRow hO hΩ 9 6 r24 (by rw [hΩ]; rfl)) (stS hΩ 0 rfl) rfl rfl ⟨by decide, by decide⟩ ⟨rfl, rfl⟩ ⟨Nat.zero_le _, Nat.zero_le _⟩ (Nat.le_of_ble_eq_true rfl) (fun r25 _ => ?_)
  refine g_aload_n hX (dc_X12_carriesAll 20 rfl) rfl 0 rfl ?_
  refine g_aload_n hX (dc_X12_carriesAll 21 rfl) rfl 0 rfl ?_
  refine g_getF (q := 10) hX (dc_X12_carriesAll 22 rfl) fl_X12_37 (by decide) rfl (stS hΩ 0 rfl) rfl ?_
  refine gV_WV (As := [.ref 10]) (st := []) hX (dc_X12_carriesAll 23 rfl) ml_X12_523 (con_X12_carryRow hO hΩ 10 6 r25 (by rw [hΩ]; rfl)) (stS hΩ 0 rfl) rfl rfl ⟨by decide, by decide⟩ ⟨rfl, rfl⟩ ⟨Nat.zero_le _, Nat.zero_le _⟩ (Nat.le_of_ble_eq_true rfl) (fun r26 _ => ?_)
  refine g_iload_n hX (dc_X12_carriesAll 24 rfl) rfl 1 rfl ?_
  refine g_iconst (w := (4 : Int32)) hX (dc_X12_carriesAll 25 rfl) (by decide) ?_
  refine g_icmp_ne (tgt := 52) hX (dc_X12_carriesAll 26 rfl) (by decide) (fun h27 => ?_) (fun h27 => ?_)
  · exact g_vret hX (dc_X12_carriesAll 27 rfl) rfl (Nat.le_refl _) (Nat.le_refl _)
  · refine g_aload_n hX (dc_X12_carriesAll 28 rfl) rfl 0 rfl ?_
    refine g_getF (q := 39) hX (dc_X12_carriesAll 29 rfl) fl_X12_130 (by decide) rfl (stS hΩ 0 rfl) rfl ?_
    refine g_iconst (w := (0 : Int32)) hX (dc_X12_carriesAll 30 rfl) (by decide) ?_
    refine g_aload_n hX (dc_X12_carriesAll 31 rfl) rfl 0 rfl ?_
    refine g_getI hX (dc_X12_carriesAll 32 rfl) fl_X12_348 (by decide) rfl (stS hΩ 0 rfl) ?_
    refine g_iast (j := 0) hX (dc_X12_carriesAll 33 rfl) (stS hΩ 39 rfl) (by decide) (by decide) ?_
    refine g_aload_n hX (dc_X12_carriesAll 34 rfl) rfl 0 rfl ?_
    refine g_aload_n hX (dc_X12_carriesAll 35 rfl) rfl 0 rfl ?_
    refine g_getF (q := 39) hX (dc_X12_carriesAll 36 rfl) fl_X12_130 (by decide) rfl (stS hΩ 0 rfl) rfl ?_
    refine gV_WV (As := [.ref 39]) (st := []) hX (dc_X12_carriesAll 37 rfl) ml_X12_523 (con_X12_carryRow hO hΩ 39 1 (wI r26 39 0 (sI r26 0 51)) (by rw [hΩ]; rfl)) (stS hΩ 0 rfl) rfl rfl ⟨by decide, by decide⟩ ⟨rfl, rfl⟩ ⟨Nat.zero_le _, Nat.zero_le _⟩ (Nat.le_of_ble_eq_true rfl) (fun r28 _ => ?_)
    refine g_aload_n hX (dc_X12_carriesAll 38 rfl) rfl 0 rfl ?_
    refine g_aload_n hX (dc_X12_carriesAll 39 rfl) rfl 0 rfl ?_
    refine g_getF (q := 39) hX (dc_X12_carriesAll 40 rfl) fl_X12_130 (by decide) rfl (stS hΩ 0 rfl) rfl ?_
    refine g_iconst (w := (0 : Int32)) hX (dc_X12_carriesAll 41 rfl) (by decide) ?_
    refine g_iald (j := 0) hX (dc_X12_carriesAll 42 rfl) (stS hΩ 39 rfl) (by decide) (by decide) ?_
    refine g_putI (raw := false) hX (dc_X12_carriesAll 43 rfl) fl_X12_348 (by decide) ⟨rfl, rfl⟩ ⟨rfl, rfl⟩ (stS hΩ 0 rfl) ?_
    refine g_aload_n hX (dc_X12_carriesAll 44 rfl) rfl 0 rfl ?_
    refine g_aload_n hX (dc_X12_carriesAll 45 rfl) rfl 0 rfl ?_
    refine g_getF (q := 2) hX (dc_X12_carriesAll 46 rfl) fl_X12_13 (by decide) rfl (stS hΩ 0 rfl) rfl ?_
    refine gV_WV (As := [.ref 2]) (st := []) hX (dc_X12_carriesAll 47 rfl) ml_X12_523 (con_X12_carryRow hO hΩ 2 5 (wI r28 0 51 (sI r28 39 0)) (by rw [hΩ]; rfl)) (stS hΩ 0 rfl) rfl rfl ⟨by decide, by decide⟩ ⟨rfl, rfl⟩ ⟨Nat.zero_le _, Nat.zero_le _⟩ (Nat.le_of_ble_eq_true rfl) (fun r29 _ => ?_)
    refine g_aload_n hX (dc_X12_carriesAll 48 rfl) rfl 0 rfl ?_
    refine g_aload_n hX (dc_X12_carriesAll 49 rfl) rfl 0 rfl ?_
    refine g_getF (q := 3) hX (dc_X12_carriesAll 50 rfl) fl_X12_16 (by decide) rfl (stS hΩ 0 rfl) rfl ?_
    refine gV_WV (As := [.ref 3]) (st := []) hX (dc_X12_carriesAll 51 rfl) ml_X12_523 (con_X12_carryRow hO hΩ 3 5 r29 (by rw [hΩ]; rfl)) (stS hΩ 0 rfl) rfl rfl ⟨by decide, by decide⟩ ⟨rfl, rfl⟩ ⟨Nat.zero_le _, Nat.zero_le _⟩ (Nat.le_of_ble_eq_true rfl) (fun r30 _ => ?_)
    refine g_aload_n hX (dc_X12_carriesAll 52 rfl) rfl 0 rfl ?_
    refine g_aload_n hX (dc_X12_carriesAll 53 rfl) rfl 0 rfl ?_
    refine g_getF (q := 5) hX (dc_X12_carriesAll 54 rfl) fl_X12_22 (by decide) rfl (stS hΩ 0 rfl) rfl ?_
    refine gV_WV (As := [.ref 5]) (st := []) hX (dc_X12_carriesAll 55 rfl) ml_X12_523 (con_X12_carryRow hO hΩ 5 4 r30 (by rw [hΩ]; rfl)) (stS hΩ 0 rfl) rfl rfl ⟨by decide, by decide⟩ ⟨rfl, rfl⟩ ⟨Nat.zero_le _, Nat.zero_le _⟩ (Nat.le_of_ble_eq_true rfl) (fun r31 _ => ?_)
    refine g_aload_n hX (dc_X12_carriesAll 56 rfl) rfl 0 rfl ?_
    refine g_aload_n hX (dc_X12_carriesAll 57 rfl) rfl 0 rfl ?_
    refine g_getF (q := 6) hX (dc_X12_carriesAll 58 rfl) fl_X12_25 (by decide) rfl (stS hΩ 0 rfl) rfl ?_
    refine gV_WV (As := [.ref 6]) (st := []) hX (dc_X12_carriesAll 59 rfl) ml_X12_523 (con_X12_carryRow hO hΩ 6 4 r31 (by rw [hΩ]; rfl)) (stS hΩ 0 rfl) rfl rfl ⟨by decide, by decide⟩ ⟨rfl, rfl⟩ ⟨Nat.zero_le _, Nat.zero_le _⟩ (Nat.le_of_ble_eq_true rfl) (fun r32 _ => ?_)
    refine g_aload_n hX (dc_X12_carriesAll 60 rfl) rfl 0 rfl ?_
    refine g_aload_n hX (dc_X12_carriesAll 61 rfl) rfl 0 rfl ?_
    refine g_getF (q := 7) hX (dc_X12_carriesAll 62 rfl) fl_X12_28 (by decide) rfl (stS hΩ 0 rfl) rfl ?_
    refine gV_WV (As := [.ref 7]) (st := []) hX (dc_X12_carriesAll 63 rfl) ml_X12_523 (con_X12_carryRow hO hΩ 7 4 r32 (by rw [hΩ]; rfl)) (stS hΩ 0 rfl) rfl rfl ⟨by decide, by decide⟩ ⟨rfl, rfl⟩ ⟨Nat.zero_le _, Nat.zero_le _⟩ (Nat.le_of_ble_eq_true rfl) (fun r33 _ => ?_)
    refine g_aload_n hX (dc_X12_carriesAll 64 rfl) rfl 0 rfl ?_
    refine g_aload_n hX (dc_X12_carriesAll 65 rfl) rfl 0 rfl ?_
    refine g_getF (q := 8) hX (dc_X12_carriesAll 66 rfl) fl_X12_31 (by decide) rfl (stS hΩ 0 rfl) rfl ?_
    refine gV_WV (As := [.ref 8]) (st := []) hX (dc_X12_carriesAll 67 rfl) ml_X12_523 (con_X12_carryRow hO hΩ 8 6 r33 (by rw [hΩ]; rfl)) (stS hΩ 0 rfl) rfl rfl ⟨by decide, by decide⟩ ⟨rfl, rfl⟩ ⟨Nat.zero_le _, Nat.zero_le _⟩ (Nat.le_of_ble_eq_true rfl) (fun r34 _ => ?_)
    refine g_aload_n hX (dc_X12_carriesAll 68 rfl) rfl 0 rfl ?_
    refine g_aload_n hX (dc_X12_carriesAll 69 rfl) rfl 0 rfl ?_
    refine g_getF (q := 11) hX (dc_X12_carriesAll 70 rfl) fl_X12_40 (by decide) rfl (stS hΩ 0 rfl) rfl ?_
    refine gV_WV (As := [.ref 11]) (st := []) hX (dc_X12_carriesAll 71 rfl) ml_X12_523 (con_X12_carryRow hO hΩ 11 6 r34 (by rw [hΩ]; rfl)) (stS hΩ 0 rfl) rfl rfl ⟨by decide, by decide⟩ ⟨rfl, rfl⟩ ⟨Nat.zero_le _, Nat.zero_le _⟩ (Nat.le_of_ble_eq_true rfl) (fun r35 _ => ?_)
    refine g_aload_n hX (dc_X12_carriesAll 72 rfl) rfl 0 rfl ?_
    refine g_aload_n hX (dc_X12_carriesAll 73 rfl) rfl 0 rfl ?_
    refine g_getF (q := 12) hX (dc_X12_carriesAll 74 rfl) fl_X12_43 (by decide) rfl (stS hΩ 0 rfl) rfl ?_
    refine gV_WV (As := [.ref 12]) (st := []) hX (dc_X12_carriesAll 75 rfl) ml_X12_523 (con_X12_carryRow hO hΩ 12 10 r35 (by rw [hΩ]; rfl)) (stS hΩ 0 rfl) rfl rfl ⟨by decide, by decide⟩ ⟨rfl, rfl⟩ ⟨Nat.zero_le _, Nat.zero_le _⟩ (Nat.le_of_ble_eq_true rfl) (fun r36 _ => ?_)
    refine g_aload_n hX (dc_X12_carriesAll 76 rfl) rfl 0 rfl ?_
    refine g_aload_n hX (dc_X12_carriesAll 77 rfl) rfl 0 rfl ?_
    refine g_getF (q := 13) hX (dc_X12_carriesAll 78 rfl) fl_X12_46 (by decide) rfl (stS hΩ 0 rfl) rfl ?_
    refine gV_WV (As := [.ref 13]) (st := []) hX (dc_X12_carriesAll 79 rfl) ml_X12_523 (con_X12_carryRow hO hΩ 13 10 r36 (by rw [hΩ]; rfl)) (stS hΩ 0 rfl) rfl rfl ⟨by decide, by decide⟩ ⟨rfl, rfl⟩ ⟨Nat.zero_le _, Nat.zero_le _⟩ (Nat.le_of_ble_eq_true rfl) (fun r37 _ => ?_)
    refine g_aload_n hX (dc_X12_carriesAll 80 rfl) rfl 0 rfl ?_
    refine g_aload_n hX (dc_X12_carriesAll 81 rfl) rfl 0 rfl ?_
    refine g_getF (q := 14) hX (dc_X12_carriesAll 82 rfl) fl_X12_49 (by decide) rfl (stS hΩ 0 rfl) rfl ?_
    refine gV_WV (As := [.ref 14]) (st := []) hX (dc_X12_carriesAll 83 rfl) ml_X12_523 (con_X12_carryRow hO hΩ 14 10 r37 (by rw [hΩ]; rfl)) (stS hΩ 0 rfl) rfl rfl ⟨by decide, by decide⟩ ⟨rfl, rfl⟩ ⟨Nat.zero_le _, Nat.zero_le _⟩ (Nat.le_of_ble_eq_true rfl) (fun r38 _ => ?_)
    refine g_aload_n hX (dc_X12_carriesAll 84 rfl) rfl 0 rfl ?_
    refine g_aload_n hX (dc_X12_carriesAll 85 rfl) rfl 0 rfl ?_
    refine g_getF (q := 15) hX (dc_X12_carriesAll 86 rfl) fl_X12_52 (by decide) rfl (stS hΩ 0 rfl) rfl ?_
    refine gV_WV (As := [.ref 15]) (st := []) hX (dc_X12_carriesAll 87 rfl) ml_X12_523 (con_X12_carryRow hO hΩ 15 4 r38 (by rw [hΩ]; rfl)) (stS hΩ 0 rfl) rfl rfl ⟨by decide, by decide⟩ ⟨rfl, rfl⟩ ⟨Nat.zero_le _, Nat.zero_le _⟩ (Nat.le_of_ble_eq_true rfl) (fun r39 _ => ?_)
    refine g_aload_n hX (dc_X12_carriesAll 88 rfl) rfl 0 rfl ?_
    refine g_aload_n hX (dc_X12_carriesAll 89 rfl) rfl 0 rfl ?_
    refine g_getF (q := 16) hX (dc_X12_carriesAll 90 rfl) fl_X12_55 (by decide) rfl (stS hΩ 0 rfl) rfl ?_
    refine gV_WV (As := [.ref 16]) (st := []) hX (dc_X12_carriesAll 91 rfl) ml_X12_523 (con_X12_carryRow hO hΩ 16 6 r39 (by rw [hΩ]; rfl)) (stS hΩ 0 rfl) rfl rfl ⟨by decide, by decide⟩ ⟨rfl, rfl⟩ ⟨Nat.zero_le _, Nat.zero_le _⟩ (Nat.le_of_ble_eq_true rfl) (fun r40 _ => ?_)
    refine g_aload_n hX (dc_X12_carriesAll 92 rfl) rfl 0 rfl ?_
    refine g_aload_n hX (dc_X12_carriesAll 93 rfl) rfl 0 rfl ?_
    refine g_getF (q := 17) hX (dc_X12_carriesAll 94 rfl) fl_X12_58 (by decide) rfl (stS hΩ 0 rfl) rfl ?_
    refine gV_WV (As := [.ref 17]) (st := []) hX (dc_X12_carriesAll 95 rfl) ml_X12_523 (con_X12_carryRow hO hΩ 17 1 r40 (by rw [hΩ]; rfl)) (stS hΩ 0 rfl) rfl rfl ⟨by decide, by decide⟩ ⟨rfl, rfl⟩ ⟨Nat.zero_le _, Nat.zero_le _⟩ (Nat.le_of_ble_eq_true rfl) (fun r41 _ => ?_)
    refine g_aload_n hX (dc_X12_carriesAll 96 rfl) rfl 0 rfl ?_
    refine g_aload_n hX (dc_X12_carriesAll 97 rfl) rfl 0 rfl ?_
    refine g_getF (q := 38) hX (dc_X12_carriesAll 98 rfl) fl_X12_127 (by decide) rfl (stS hΩ 0 rfl) rfl ?_
    refine gV_WV (As := [.ref 38]) (st := []) hX (dc_X12_carriesAll 99 rfl) ml_X12_523 (con_X12_carryRow hO hΩ 38 380 r41 (by rw [hΩ]; rfl)) (stS hΩ 0 rfl) rfl rfl ⟨by decide, by decide⟩ ⟨rfl, rfl⟩ ⟨Nat.zero_le _, Nat.zero_le _⟩ (Nat.le_of_ble_eq_true rfl) (fun r42 _ => ?_)
    exact g_vret hX (dc_X12_carriesAll 100 rfl) rfl (Nat.le_refl _) (Nat.le_refl _)
def f_X12_carriesAll (x1 : Int32) (x2 : Int32) (σ : MS) : Option (MS) := b_X12_carriesAll_0  x1 x2 σ
theorem con_X12_carriesAll {Ω : OM} (hO : OKO Ω) (hΩ : oSH Ω = SHM) (x1 : Int32) (x2 : Int32) (σ : MS)  : Con Ω yX12_carriesAll cX12_carriesAll 3 none rm_X12_carriesAll (emWV) [.ref 0, .int x1, .int x2] σ (f_X12_carriesAll x1 x2 σ) :=
  con_of hO (by decide +kernel) (Nat.le_of_ble_eq_true rfl) rfl (fun X hX _ => c_X12_carriesAll_0 hX hO hΩ   x1 x2 σ )
def it_X12_keepsAll : List (Nat × Instr × Nat × Nat) := [(0, .aload_n 0, 1, 1), (1, .iconst 4, 1, 2), (2, .iconst 0, 1, 3), (3, .invokevirtual 457, 3, 6), (6, .return_, 1, 7)]
theorem id_X12_keepsAll : ∀ q ∈ it_X12_keepsAll, decode cX12_keepsAll q.1 = .ok (q.2.1, q.2.2.1) ∧ q.1 + q.2.2.1 = q.2.2.2 := by decide +kernel
theorem dc_X12_keepsAll {pc : Nat} {i : Instr} {n pc' : Nat} (j : Nat) (h : it_X12_keepsAll[j]? = some (pc, i, n, pc')) : Dc cX12_keepsAll pc i n pc' := dc_of id_X12_keepsAll j h
abbrev rm_X12_keepsAll : Room := { frames := 2, cells := 0, slots := 0, locals := 44 }
def b_X12_keepsAll_0     (σ : MS) : Option (MS) := (f_X12_carriesAll (4 : Int32) (0 : Int32) σ).bind (fun r2 => some (r2))
set_option maxHeartbeats 4000000 in
set_option maxRecDepth 20000 in
theorem c_X12_keepsAll_0 {X : CX} {Ω : OM} (hX : CF X Ω RX12 cX12_keepsAll 1 none rm_X12_keepsAll) (hO : OKO Ω) (hΩ : oSH Ω = SHM)      (σ : MS)  : GE X Ω 1 0 0 (emWV) 0 0 0 [(0, .ref 0)] [] σ (b_X12_keepsAll_0  σ) := by
  unfold b_X12_keepsAll_0
  refine g_aload_n hX (dc_X12_keepsAll 0 rfl) rfl 0 rfl ?_
  refine g_iconst (w := (4 : Int32)) hX (dc_X12_keepsAll 1 rfl) (by decide) ?_
  refine g_iconst (w := (0 : Int32)) hX (dc_X12_keepsAll 2 rfl) (by decide) ?_
  refine gV_WV (As := [.int (4 : Int32), .int (0 : Int32)]) (st := []) hX (dc_X12_keepsAll 3 rfl) ml_X12_457 (con_X12_carriesAll hO hΩ (4 : Int32) (0 : Int32) σ) (stS hΩ 0 rfl) rfl rfl ⟨by decide, by decide⟩ ⟨rfl, rfl⟩ ⟨Nat.zero_le _, Nat.zero_le _⟩ (Nat.le_of_ble_eq_true rfl) (fun r2 _ => ?_)
  exact g_vret hX (dc_X12_keepsAll 4 rfl) rfl (Nat.le_refl _) (Nat.le_refl _)
def f_X12_keepsAll  (σ : MS) : Option (MS) := b_X12_keepsAll_0   σ
theorem con_X12_keepsAll {Ω : OM} (hO : OKO Ω) (hΩ : oSH Ω = SHM)  (σ : MS)  : Con Ω yX12_keepsAll cX12_keepsAll 1 none rm_X12_keepsAll (emWV) [.ref 0] σ (f_X12_keepsAll  σ) :=
  con_of hO (by decide +kernel) (Nat.le_of_ble_eq_true rfl) rfl (fun X hX _ => c_X12_keepsAll_0 hX hO hΩ    σ )
def it_X12_laysBack : List (Nat × Instr × Nat × Nat) := [(0, .aload_n 0, 1, 1), (1, .iconst 4, 1, 2), (2, .iconst 1, 1, 3), (3, .invokevirtual 457, 3, 6), (6, .return_, 1, 7)]
theorem id_X12_laysBack : ∀ q ∈ it_X12_laysBack, decode cX12_laysBack q.1 = .ok (q.2.1, q.2.2.1) ∧ q.1 + q.2.2.1 = q.2.2.2 := by decide +kernel
theorem dc_X12_laysBack {pc : Nat} {i : Instr} {n pc' : Nat} (j : Nat) (h : it_X12_laysBack[j]? = some (pc, i, n, pc')) : Dc cX12_laysBack pc i n pc' := dc_of id_X12_laysBack j h
abbrev rm_X12_laysBack : Room := { frames := 2, cells := 0, slots := 0, locals := 44 }
def b_X12_laysBack_0     (σ : MS) : Option (MS) := (f_X12_carriesAll (4 : Int32) (1 : Int32) σ).bind (fun r2 => some (r2))
set_option maxHeartbeats 4000000 in
set_option maxRecDepth 20000 in
theorem c_X12_laysBack_0 {X : CX} {Ω : OM} (hX : CF X Ω RX12 cX12_laysBack 1 none rm_X12_laysBack) (hO : OKO Ω) (hΩ : oSH Ω = SHM)      (σ : MS)  : GE X Ω 1 0 0 (emWV) 0 0 0 [(0, .ref 0)] [] σ (b_X12_laysBack_0  σ) := by
  unfold b_X12_laysBack_0
  refine g_aload_n hX (dc_X12_laysBack 0 rfl) rfl 0 rfl ?_
  refine g_iconst (w := (4 : Int32)) hX (dc_X12_laysBack 1 rfl) (by decide) ?_
  refine g_iconst (w := (1 : Int32)) hX (dc_X12_laysBack 2 rfl) (by decide) ?_
  refine gV_WV (As := [.int (4 : Int32), .int (1 : Int32)]) (st := []) hX (dc_X12_laysBack 3 rfl) ml_X12_457 (con_X12_carriesAll hO hΩ (4 : Int32) (1 : Int32) σ) (stS hΩ 0 rfl) rfl rfl ⟨by decide, by decide⟩ ⟨rfl, rfl⟩ ⟨Nat.zero_le _, Nat.zero_le _⟩ (Nat.le_of_ble_eq_true rfl) (fun r2 _ => ?_)
  exact g_vret hX (dc_X12_laysBack 4 rfl) rfl (Nat.le_refl _) (Nat.le_refl _)
def f_X12_laysBack  (σ : MS) : Option (MS) := b_X12_laysBack_0   σ
theorem con_X12_laysBack {Ω : OM} (hO : OKO Ω) (hΩ : oSH Ω = SHM)  (σ : MS)  : Con Ω yX12_laysBack cX12_laysBack 1 none rm_X12_laysBack (emWV) [.ref 0] σ (f_X12_laysBack  σ) :=
  con_of hO (by decide +kernel) (Nat.le_of_ble_eq_true rfl) rfl (fun X hX _ => c_X12_laysBack_0 hX hO hΩ    σ )
def it_X12_ahead : List (Nat × Instr × Nat × Nat) := [(0, .iload_n 3, 1, 1), (1, .ifCond .ne 11, 3, 4), (4, .aload_n 0, 1, 5), (5, .iload_n 1, 1, 6), (6, .invokevirtual 165, 3, 9), (9, .ifCond .ne 21, 3, 12), (12, .iload_n 3, 1, 13), (13, .iconst 1, 1, 14), (14, .if_icmp .ne 11, 3, 17), (17, .aload_n 0, 1, 18), (18, .iload_n 1, 1, 19), (19, .invokevirtual 393, 3, 22), (22, .ifCond .ne 8, 3, 25), (25, .iload_n 3, 1, 26), (26, .iconst 2, 1, 27), (27, .if_icmp .ne 7, 3, 30), (30, .iconst 1, 1, 31), (31, .goto 4, 3, 34), (34, .iconst 0, 1, 35), (35, .istore 4, 2, 37), (37, .aload_n 0, 1, 38), (38, .getfield 341, 3, 41), (41, .ifCond .eq 20, 3, 44), (44, .iload 4, 2, 46), (46, .ifCond .eq 15, 3, 49), (49, .iload_n 2, 1, 50), (50, .i2l, 1, 51), (51, .lconst 0, 1, 52), (52, .ldc2_w 460, 3, 55), (55, .invokestatic 161, 3, 58), (58, .ifCond .ne 6, 3, 61), (61, .bipush (-2), 2, 63), (63, .ireturn, 1, 64), (64, .aload_n 0, 1, 65), (65, .invokevirtual 462, 3, 68), (68, .aload_n 0, 1, 69), (69, .iload_n 2, 1, 70), (70, .invokevirtual 465, 3, 73), (73, .pop, 1, 74), (74, .iload_n 3, 1, 75), (75, .ifCond .ne 12, 3, 78), (78, .aload_n 0, 1, 79), (79, .getfield 34, 3, 82), (82, .iload_n 1, 1, 83), (83, .iaload, 1, 84), (84, .goto 23, 3, 87), (87, .iload_n 3, 1, 88), (88, .iconst 1, 1, 89), (89, .if_icmp .ne 12, 3, 92), (92, .aload_n 0, 1, 93), (93, .getfield 19, 3, 96), (96, .iload_n 1, 1, 97), (97, .iaload, 1, 98), (98, .goto 9, 3, 101), (101, .aload_n 0, 1, 102), (102, .getfield 9, 3, 105), (105, .iconst 1, 1, 106), (106, .iaload, 1, 107), (107, .istore 5, 2, 109), (109, .aload_n 0, 1, 110), (110, .invokevirtual 468, 3, 113), (113, .iload 5, 2, 115), (115, .ireturn, 1, 116)]
theorem id_X12_ahead : ∀ q ∈ it_X12_ahead, decode cX12_ahead q.1 = .ok (q.2.1, q.2.2.1) ∧ q.1 + q.2.2.1 = q.2.2.2 := by decide +kernel
theorem dc_X12_ahead {pc : Nat} {i : Instr} {n pc' : Nat} (j : Nat) (h : it_X12_ahead[j]? = some (pc, i, n, pc')) : Dc cX12_ahead pc i n pc' := dc_of id_X12_ahead j h
abbrev rm_X12_ahead : Room := { frames := 8, cells := 0, slots := 0, locals := 188 }
def b_X12_ahead_107    (s0 : Int32) (σ : MS) : Option (Int32 × MS) := (f_X12_laysBack σ).bind (fun r19 => some (s0, r19))
set_option maxHeartbeats 4000000 in
set_option maxRecDepth 20000 in
theorem c_X12_ahead_107 {X : CX} {Ω : OM} (hX : CF X Ω RX12 cX12_ahead 6 (some .int) rm_X12_ahead) (hO : OKO Ω) (hΩ : oSH Ω = SHM)     (s0 : Int32) (σ : MS)  : GE X Ω 6 0 0 (emWI) 0 0 107 [(0, .ref 0)] [.int s0] σ (b_X12_ahead_107  s0 σ) := by
  unfold b_X12_ahead_107
  refine g_istore (L' := [(5, .int s0), (0, .ref 0)]) hX (dc_X12_ahead 58 rfl) (by decide) rfl ?_
  refine g_aload_n hX (dc_X12_ahead 59 rfl) rfl 1 rfl ?_
  refine gV_WV (As := []) (st := []) hX (dc_X12_ahead 60 rfl) ml_X12_468 (con_X12_laysBack hO hΩ σ) (stS hΩ 0 rfl) rfl rfl ⟨by decide, by decide⟩ ⟨rfl, rfl⟩ ⟨Nat.zero_le _, Nat.zero_le _⟩ (Nat.le_of_ble_eq_true rfl) (fun r19 _ => ?_)
  refine g_iload hX (dc_X12_ahead 61 rfl) 0 rfl ?_
  exact g_iret hX (dc_X12_ahead 62 rfl) rfl rfl (Nat.le_refl _) (Nat.le_refl _)
def b_X12_ahead_61     (σ : MS) : Option (Int32 × MS) := some ((-2 : Int32), σ)
set_option maxHeartbeats 4000000 in
set_option maxRecDepth 20000 in
theorem c_X12_ahead_61 {X : CX} {Ω : OM} (hX : CF X Ω RX12 cX12_ahead 6 (some .int) rm_X12_ahead) (hO : OKO Ω) (hΩ : oSH Ω = SHM)      (σ : MS)  : GE X Ω 6 0 0 (emWI) 0 0 61 [] [] σ (b_X12_ahead_61  σ) := by
  unfold b_X12_ahead_61
  refine g_bipush (w := (-2 : Int32)) hX (dc_X12_ahead 31 rfl) (by decide) ?_
  exact g_iret hX (dc_X12_ahead 32 rfl) rfl rfl (Nat.le_refl _) (Nat.le_refl _)
def b_X12_ahead_35    (y1 : Int32) (y2 : Int32) (y3 : Int32) (s0 : Int32) (σ : MS) : Option (Int32 × MS) := (if (sI σ 0 28) = 0 then (b_X12_ahead_61 σ) else (if s0 = 0 then (b_X12_ahead_61 σ) else (f_X12_in (y2).toInt64 (0 : Int64) (100 : Int64)).bind (fun r22 => (if r22 = 0 then (b_X12_ahead_61 σ) else (f_X12_keepsAll σ).bind (fun r24 => (f_X12_goFor y2 r24).bind (fun r25 => (if y3 = 0 then chk (inb y1 6) ((b_X12_ahead_107 ((sI r25.2 9 (ix y1))) r25.2)) else (if y3 = (1 : Int32) then chk (inb y1 4) ((b_X12_ahead_107 ((sI r25.2 4 (ix y1))) r25.2)) else (b_X12_ahead_107 ((sI r25.2 1 1)) r25.2)))))))))
set_option maxHeartbeats 4000000 in
set_option maxRecDepth 20000 in
theorem c_X12_ahead_35 {X : CX} {Ω : OM} (hX : CF X Ω RX12 cX12_ahead 6 (some .int) rm_X12_ahead) (hO : OKO Ω) (hΩ : oSH Ω = SHM)     (y1 : Int32) (y2 : Int32) (y3 : Int32) (s0 : Int32) (σ : MS)  : GE X Ω 6 0 0 (emWI) 0 0 35 [(0, .ref 0), (1, .int y1), (2, .int y2), (3, .int y3)] [.int s0] σ (b_X12_ahead_35  y1 y2 y3 s0 σ) := by
  unfold b_X12_ahead_35
  refine g_istore (L' := [(4, .int s0), (0, .ref 0), (1, .int y1), (2, .int y2), (3, .int y3)]) hX (dc_X12_ahead 19 rfl) (by decide) rfl ?_
  refine g_aload_n hX (dc_X12_ahead 20 rfl) rfl 1 rfl ?_
  refine g_getI hX (dc_X12_ahead 21 rfl) fl_X12_341 (by decide) rfl (stS hΩ 0 rfl) ?_
  refine g_if_eq (tgt := 61) hX (dc_X12_ahead 22 rfl) (by decide) (fun h20 => ?_) (fun h20 => ?_)
  · exact g_sub [] rfl (c_X12_ahead_61 hX hO hΩ σ)
  · refine g_iload hX (dc_X12_ahead 23 rfl) 0 rfl ?_
    refine g_if_eq (tgt := 61) hX (dc_X12_ahead 24 rfl) (by decide) (fun h21 => ?_) (fun h21 => ?_)
    · exact g_sub [] rfl (c_X12_ahead_61 hX hO hΩ σ)
    · refine g_iload_n hX (dc_X12_ahead 25 rfl) rfl 3 rfl ?_
      refine g_i2l hX (dc_X12_ahead 26 rfl) ?_
      refine g_lconst (w := (0 : Int64)) hX (dc_X12_ahead 27 rfl) (by decide) ?_
      refine g_ldc2 hX (dc_X12_ahead 28 rfl) wk_X12_460 ?_
      refine gS_PI (As := [.long (y2).toInt64, .long (0 : Int64), .long (100 : Int64)]) (st := []) hX (dc_X12_ahead 29 rfl) ml_X12_161 (con_X12_in hO hΩ (y2).toInt64 (0 : Int64) (100 : Int64) σ) rfl rfl ⟨by decide, by decide⟩ ⟨rfl, rfl⟩ ⟨Nat.zero_le _, Nat.zero_le _⟩ (Nat.le_of_ble_eq_true rfl) (fun r22 _ => ?_)
      refine g_if_ne (tgt := 64) hX (dc_X12_ahead 30 rfl) (by decide) (fun h23 => ?_) (fun h23 => ?_)
      · exact g_sub [] rfl (c_X12_ahead_61 hX hO hΩ σ)
      · refine g_aload_n hX (dc_X12_ahead 33 rfl) rfl 1 rfl ?_
        refine gV_WV (As := []) (st := []) hX (dc_X12_ahead 34 rfl) ml_X12_462 (con_X12_keepsAll hO hΩ σ) (stS hΩ 0 rfl) rfl rfl ⟨by decide, by decide⟩ ⟨rfl, rfl⟩ ⟨Nat.zero_le _, Nat.zero_le _⟩ (Nat.le_of_ble_eq_true rfl) (fun r24 _ => ?_)
        refine g_aload_n hX (dc_X12_ahead 35 rfl) rfl 1 rfl ?_
        refine g_iload_n hX (dc_X12_ahead 36 rfl) rfl 3 rfl ?_
        refine gV_WI (As := [.int y2]) (st := []) hX (dc_X12_ahead 37 rfl) ml_X12_465 (con_X12_goFor hO hΩ y2 r24) (stS hΩ 0 rfl) rfl rfl ⟨by decide, by decide⟩ ⟨rfl, rfl⟩ ⟨Nat.zero_le _, Nat.zero_le _⟩ (Nat.le_of_ble_eq_true rfl) (fun r25 _ => ?_)
        refine g_pop hX (dc_X12_ahead 38 rfl) rfl ?_
        refine g_iload_n hX (dc_X12_ahead 39 rfl) rfl 4 rfl ?_
        refine g_if_ne (tgt := 87) hX (dc_X12_ahead 40 rfl) (by decide) (fun h26 => ?_) (fun h26 => ?_)
        · refine g_aload_n hX (dc_X12_ahead 41 rfl) rfl 1 rfl ?_
          refine g_getF (q := 9) hX (dc_X12_ahead 42 rfl) fl_X12_34 (by decide) rfl (stS hΩ 0 rfl) rfl ?_
          refine g_iload_n hX (dc_X12_ahead 43 rfl) rfl 2 rfl ?_
          refine g_chk (fun hc27 => ?_)
          refine g_iald hX (dc_X12_ahead 44 rfl) (stS hΩ 9 rfl) hc27 rfl ?_
          refine g_goto (tgt := 107) hX (dc_X12_ahead 45 rfl) (by decide) ?_
          exact g_sub [1] rfl (c_X12_ahead_107 hX hO hΩ ((sI r25.2 9 (ix y1))) r25.2)
        · refine g_iload_n hX (dc_X12_ahead 46 rfl) rfl 4 rfl ?_
          refine g_iconst (w := (1 : Int32)) hX (dc_X12_ahead 47 rfl) (by decide) ?_
          refine g_icmp_ne (tgt := 101) hX (dc_X12_ahead 48 rfl) (by decide) (fun h28 => ?_) (fun h28 => ?_)
          · refine g_aload_n hX (dc_X12_ahead 49 rfl) rfl 1 rfl ?_
            refine g_getF (q := 4) hX (dc_X12_ahead 50 rfl) fl_X12_19 (by decide) rfl (stS hΩ 0 rfl) rfl ?_
            refine g_iload_n hX (dc_X12_ahead 51 rfl) rfl 2 rfl ?_
            refine g_chk (fun hc29 => ?_)
            refine g_iald hX (dc_X12_ahead 52 rfl) (stS hΩ 4 rfl) hc29 rfl ?_
            refine g_goto (tgt := 107) hX (dc_X12_ahead 53 rfl) (by decide) ?_
            exact g_sub [1] rfl (c_X12_ahead_107 hX hO hΩ ((sI r25.2 4 (ix y1))) r25.2)
          · refine g_aload_n hX (dc_X12_ahead 54 rfl) rfl 1 rfl ?_
            refine g_getF (q := 1) hX (dc_X12_ahead 55 rfl) fl_X12_9 (by decide) rfl (stS hΩ 0 rfl) rfl ?_
            refine g_iconst (w := (1 : Int32)) hX (dc_X12_ahead 56 rfl) (by decide) ?_
            refine g_iald (j := 1) hX (dc_X12_ahead 57 rfl) (stS hΩ 1 rfl) (by decide) (by decide) ?_
            exact g_sub [1] rfl (c_X12_ahead_107 hX hO hΩ ((sI r25.2 1 1)) r25.2)
def b_X12_ahead_30    (y1 : Int32) (y2 : Int32) (y3 : Int32) (σ : MS) : Option (Int32 × MS) := (b_X12_ahead_35 (y1) (y2) (y3) ((1 : Int32)) σ)
set_option maxHeartbeats 4000000 in
set_option maxRecDepth 20000 in
theorem c_X12_ahead_30 {X : CX} {Ω : OM} (hX : CF X Ω RX12 cX12_ahead 6 (some .int) rm_X12_ahead) (hO : OKO Ω) (hΩ : oSH Ω = SHM)     (y1 : Int32) (y2 : Int32) (y3 : Int32) (σ : MS)  : GE X Ω 6 0 0 (emWI) 0 0 30 [(0, .ref 0), (1, .int y1), (2, .int y2), (3, .int y3)] [] σ (b_X12_ahead_30  y1 y2 y3 σ) := by
  unfold b_X12_ahead_30
  refine g_iconst (w := (1 : Int32)) hX (dc_X12_ahead 16 rfl) (by decide) ?_
  refine g_goto (tgt := 35) hX (dc_X12_ahead 17 rfl) (by decide) ?_
  exact g_sub [0, 1, 2, 3] rfl (c_X12_ahead_35 hX hO hΩ (y1) (y2) (y3) ((1 : Int32)) σ)
def b_X12_ahead_25    (y1 : Int32) (y2 : Int32) (y3 : Int32) (σ : MS) : Option (Int32 × MS) := (if y3 = (2 : Int32) then (b_X12_ahead_30 (y1) (y2) (y3) σ) else (b_X12_ahead_35 (y1) (y2) (y3) ((0 : Int32)) σ))
set_option maxHeartbeats 4000000 in
set_option maxRecDepth 20000 in
theorem c_X12_ahead_25 {X : CX} {Ω : OM} (hX : CF X Ω RX12 cX12_ahead 6 (some .int) rm_X12_ahead) (hO : OKO Ω) (hΩ : oSH Ω = SHM)     (y1 : Int32) (y2 : Int32) (y3 : Int32) (σ : MS)  : GE X Ω 6 0 0 (emWI) 0 0 25 [(0, .ref 0), (1, .int y1), (2, .int y2), (3, .int y3)] [] σ (b_X12_ahead_25  y1 y2 y3 σ) := by
  unfold b_X12_ahead_25
  refine g_iload_n hX (dc_X12_ahead 13 rfl) rfl 3 rfl ?_
  refine g_iconst (w := (2 : Int32)) hX (dc_X12_ahead 14 rfl) (by decide) ?_
  refine g_icmp_ne (tgt := 34) hX (dc_X12_ahead 15 rfl) (by decide) (fun h30 => ?_) (fun h30 => ?_)
  · exact g_sub [0, 1, 2, 3] rfl (c_X12_ahead_30 hX hO hΩ (y1) (y2) (y3) σ)
  · refine g_iconst (w := (0 : Int32)) hX (dc_X12_ahead 18 rfl) (by decide) ?_
    exact g_sub [0, 1, 2, 3] rfl (c_X12_ahead_35 hX hO hΩ (y1) (y2) (y3) ((0 : Int32)) σ)
def b_X12_ahead_12    (y1 : Int32) (y2 : Int32) (y3 : Int32) (σ : MS) : Option (Int32 × MS) := (if y3 = (1 : Int32) then (f_X12_isPerson y1 σ).bind (fun r32 => (if r32 = 0 then (b_X12_ahead_25 (y1) (y2) (y3) σ) else (b_X12_ahead_30 (y1) (y2) (y3) σ))) else (b_X12_ahead_25 (y1) (y2) (y3) σ))
set_option maxHeartbeats 4000000 in
set_option maxRecDepth 20000 in
theorem c_X12_ahead_12 {X : CX} {Ω : OM} (hX : CF X Ω RX12 cX12_ahead 6 (some .int) rm_X12_ahead) (hO : OKO Ω) (hΩ : oSH Ω = SHM)     (y1 : Int32) (y2 : Int32) (y3 : Int32) (σ : MS)  : GE X Ω 6 0 0 (emWI) 0 0 12 [(0, .ref 0), (1, .int y1), (2, .int y2), (3, .int y3)] [] σ (b_X12_ahead_12  y1 y2 y3 σ) := by
  unfold b_X12_ahead_12
  refine g_iload_n hX (dc_X12_ahead 6 rfl) rfl 3 rfl ?_
  refine g_iconst (w := (1 : Int32)) hX (dc_X12_ahead 7 rfl) (by decide) ?_
  refine g_icmp_ne (tgt := 25) hX (dc_X12_ahead 8 rfl) (by decide) (fun h31 => ?_) (fun h31 => ?_)
  · refine g_aload_n hX (dc_X12_ahead 9 rfl) rfl 0 rfl ?_
    refine g_iload_n hX (dc_X12_ahead 10 rfl) rfl 1 rfl ?_
    refine gV_PI (As := [.int y1]) (st := []) hX (dc_X12_ahead 11 rfl) ml_X12_393 (con_X12_isPerson hO hΩ y1 σ) (stS hΩ 0 rfl) rfl rfl ⟨by decide, by decide⟩ ⟨rfl, rfl⟩ ⟨Nat.zero_le _, Nat.zero_le _⟩ (Nat.le_of_ble_eq_true rfl) (fun r32 _ => ?_)
    refine g_if_ne (tgt := 30) hX (dc_X12_ahead 12 rfl) (by decide) (fun h33 => ?_) (fun h33 => ?_)
    · exact g_sub [0, 1, 2, 3] rfl (c_X12_ahead_25 hX hO hΩ (y1) (y2) (y3) σ)
    · exact g_sub [0, 1, 2, 3] rfl (c_X12_ahead_30 hX hO hΩ (y1) (y2) (y3) σ)
  · exact g_sub [0, 1, 2, 3] rfl (c_X12_ahead_25 hX hO hΩ (y1) (y2) (y3) σ)
def b_X12_ahead_0   (x1 : Int32) (x2 : Int32) (x3 : Int32)  (σ : MS) : Option (Int32 × MS) := (if x3 = 0 then (f_X12_isWork x1 σ).bind (fun r35 => (if r35 = 0 then (b_X12_ahead_12 (x1) (x2) (x3) σ) else (b_X12_ahead_30 (x1) (x2) (x3) σ))) else (b_X12_ahead_12 (x1) (x2) (x3) σ))
set_option maxHeartbeats 4000000 in
set_option maxRecDepth 20000 in
theorem c_X12_ahead_0 {X : CX} {Ω : OM} (hX : CF X Ω RX12 cX12_ahead 6 (some .int) rm_X12_ahead) (hO : OKO Ω) (hΩ : oSH Ω = SHM)    (x1 : Int32) (x2 : Int32) (x3 : Int32)  (σ : MS)  : GE X Ω 6 0 0 (emWI) 0 0 0 [(0, .ref 0), (1, .int x1), (2, .int x2), (3, .int x3)] [] σ (b_X12_ahead_0  x1 x2 x3 σ) := by
  unfold b_X12_ahead_0
  refine g_iload_n hX (dc_X12_ahead 0 rfl) rfl 3 rfl ?_
  refine g_if_ne (tgt := 12) hX (dc_X12_ahead 1 rfl) (by decide) (fun h34 => ?_) (fun h34 => ?_)
  · refine g_aload_n hX (dc_X12_ahead 2 rfl) rfl 0 rfl ?_
    refine g_iload_n hX (dc_X12_ahead 3 rfl) rfl 1 rfl ?_
    refine gV_PI (As := [.int x1]) (st := []) hX (dc_X12_ahead 4 rfl) ml_X12_165 (con_X12_isWork hO hΩ x1 σ) (stS hΩ 0 rfl) rfl rfl ⟨by decide, by decide⟩ ⟨rfl, rfl⟩ ⟨Nat.zero_le _, Nat.zero_le _⟩ (Nat.le_of_ble_eq_true rfl) (fun r35 _ => ?_)
    refine g_if_ne (tgt := 30) hX (dc_X12_ahead 5 rfl) (by decide) (fun h36 => ?_) (fun h36 => ?_)
    · exact g_sub [0, 1, 2, 3] rfl (c_X12_ahead_12 hX hO hΩ (x1) (x2) (x3) σ)
    · exact g_sub [0, 1, 2, 3] rfl (c_X12_ahead_30 hX hO hΩ (x1) (x2) (x3) σ)
  · exact g_sub [0, 1, 2, 3] rfl (c_X12_ahead_12 hX hO hΩ (x1) (x2) (x3) σ)
def f_X12_ahead (x1 : Int32) (x2 : Int32) (x3 : Int32) (σ : MS) : Option (Int32 × MS) := b_X12_ahead_0  x1 x2 x3 σ
theorem con_X12_ahead {Ω : OM} (hO : OKO Ω) (hΩ : oSH Ω = SHM) (x1 : Int32) (x2 : Int32) (x3 : Int32) (σ : MS)  : Con Ω yX12_ahead cX12_ahead 6 (some .int) rm_X12_ahead (emWI) [.ref 0, .int x1, .int x2, .int x3] σ (f_X12_ahead x1 x2 x3 σ) :=
  con_of hO (by decide +kernel) (Nat.le_of_ble_eq_true rfl) rfl (fun X hX _ => c_X12_ahead_0 hX hO hΩ   x1 x2 x3 σ )
def it_X12_stops : List (Nat × Instr × Nat × Nat) := [(0, .aload_n 0, 1, 1), (1, .iload_n 1, 1, 2), (2, .invokevirtual 454, 3, 5), (5, .ifCond .ne 5, 3, 8), (8, .iconst (-1), 1, 9), (9, .ireturn, 1, 10), (10, .aload_n 0, 1, 11), (11, .invokevirtual 462, 3, 14), (14, .bipush (-2), 2, 16), (16, .istore_n 2, 1, 17), (17, .iconst 0, 1, 18), (18, .istore_n 3, 1, 19), (19, .iload_n 3, 1, 20), (20, .sipush 200, 3, 23), (23, .if_icmp .ge 44, 3, 26), (26, .iload_n 2, 1, 27), (27, .bipush (-2), 2, 29), (29, .if_icmp .ne 38, 3, 32), (32, .aload_n 0, 1, 33), (33, .invokevirtual 428, 3, 36), (36, .pop, 1, 37), (37, .aload_n 0, 1, 38), (38, .getfield 34, 3, 41), (41, .iload_n 1, 1, 42), (42, .iaload, 1, 43), (43, .iconst (-1), 1, 44), (44, .if_icmp .ne 14, 3, 47), (47, .aload_n 0, 1, 48), (48, .getfield 9, 3, 51), (51, .iconst 5, 1, 52), (52, .iaload, 1, 53), (53, .iconst 1, 1, 54), (54, .isub, 1, 55), (55, .goto 5, 3, 58), (58, .bipush (-2), 2, 60), (60, .istore_n 2, 1, 61), (61, .iinc 3 1, 3, 64), (64, .goto (-45), 3, 67), (67, .aload_n 0, 1, 68), (68, .invokevirtual 468, 3, 71), (71, .iload_n 2, 1, 72), (72, .ireturn, 1, 73)]
theorem id_X12_stops : ∀ q ∈ it_X12_stops, decode cX12_stops q.1 = .ok (q.2.1, q.2.2.1) ∧ q.1 + q.2.2.1 = q.2.2.2 := by decide +kernel
theorem dc_X12_stops {pc : Nat} {i : Instr} {n pc' : Nat} (j : Nat) (h : it_X12_stops[j]? = some (pc, i, n, pc')) : Dc cX12_stops pc i n pc' := dc_of id_X12_stops j h
abbrev rm_X12_stops : Room := { frames := 7, cells := 0, slots := 0, locals := 165 }
def b_X12_stops_67    (y2 : Int32) (σ : MS) : Option (Int32 × MS) := (f_X12_laysBack σ).bind (fun r10 => some (y2, r10))
set_option maxHeartbeats 4000000 in
set_option maxRecDepth 20000 in
theorem c_X12_stops_67 {X : CX} {Ω : OM} (hX : CF X Ω RX12 cX12_stops 4 (some .int) rm_X12_stops) (hO : OKO Ω) (hΩ : oSH Ω = SHM)     (y2 : Int32) (σ : MS)  : GE X Ω 4 0 0 (emWI) 0 0 67 [(0, .ref 0), (2, .int y2)] [] σ (b_X12_stops_67  y2 σ) := by
  unfold b_X12_stops_67
  refine g_aload_n hX (dc_X12_stops 38 rfl) rfl 0 rfl ?_
  refine gV_WV (As := []) (st := []) hX (dc_X12_stops 39 rfl) ml_X12_468 (con_X12_laysBack hO hΩ σ) (stS hΩ 0 rfl) rfl rfl ⟨by decide, by decide⟩ ⟨rfl, rfl⟩ ⟨Nat.zero_le _, Nat.zero_le _⟩ (Nat.le_of_ble_eq_true rfl) (fun r10 _ => ?_)
  refine g_iload_n hX (dc_X12_stops 40 rfl) rfl 1 rfl ?_
  exact g_iret hX (dc_X12_stops 41 rfl) rfl rfl (Nat.le_refl _) (Nat.le_refl _)
def b_X12_stops_60  (k19 : Int32 → Int32 → Int32 → MS → Option (Int32 × MS))  (y1 : Int32) (y3 : Int32) (s0 : Int32) (σ : MS) : Option (Int32 × MS) := (k19 (y1) (s0) ((y3 + (1 : Int32))) σ)
set_option maxHeartbeats 4000000 in
set_option maxRecDepth 20000 in
theorem c_X12_stops_60 {X : CX} {Ω : OM} (hX : CF X Ω RX12 cX12_stops 4 (some .int) rm_X12_stops) (hO : OKO Ω) (hΩ : oSH Ω = SHM)   (k19 : Int32 → Int32 → Int32 → MS → Option (Int32 × MS)) (hk19 : ∀ (y1 : Int32) (y2 : Int32) (y3 : Int32) (σ : MS) , GE X Ω 4 0 0 (emWI) 0 0 19 [(0, .ref 0), (1, .int y1), (2, .int y2), (3, .int y3)] [] σ (k19 y1 y2 y3 σ))  (y1 : Int32) (y3 : Int32) (s0 : Int32) (σ : MS)  : GE X Ω 4 0 0 (emWI) 0 0 60 [(0, .ref 0), (1, .int y1), (3, .int y3)] [.int s0] σ (b_X12_stops_60  k19 y1 y3 s0 σ) := by
  unfold b_X12_stops_60
  refine g_istore_n (L' := [(2, .int s0), (0, .ref 0), (1, .int y1), (3, .int y3)]) hX (dc_X12_stops 35 rfl) rfl (by decide) rfl ?_
  refine g_iinc (w := (y3 + (1 : Int32))) (L' := [(3, .int (y3 + (1 : Int32))), (2, .int s0), (0, .ref 0), (1, .int y1)]) hX (dc_X12_stops 36 rfl) 3 rfl rfl (by decide) rfl ?_
  refine g_goto (tgt := 19) hX (dc_X12_stops 37 rfl) (by decide) ?_
  exact g_sub [2, 3, 1, 0] rfl (hk19 (y1) (s0) ((y3 + (1 : Int32))) σ )
def b_X12_stops_19   : Nat → Int32 → Int32 → Int32 → MS → Option (Int32 × MS)
  | 0, _, _, _, _ => none
  | n + 1, y1, y2, y3, σ => (if (200 : Int32) ≤ y3 then (b_X12_stops_67 (y2) σ) else (if y2 = (-2 : Int32) then (f_X12_goes σ).bind (fun r13 => chk (inb y1 6) ((if (sI r13.2 9 (ix y1)) = (-1 : Int32) then (b_X12_stops_60 (b_X12_stops_19  n) (y1) (y3) (((sI r13.2 1 5) - (1 : Int32))) r13.2) else (b_X12_stops_60 (b_X12_stops_19  n) (y1) (y3) ((-2 : Int32)) r13.2)))) else (b_X12_stops_67 (y2) σ)))
set_option maxHeartbeats 4000000 in
set_option maxRecDepth 20000 in
theorem c_X12_stops_19 {X : CX} {Ω : OM} (hX : CF X Ω RX12 cX12_stops 4 (some .int) rm_X12_stops) (hO : OKO Ω) (hΩ : oSH Ω = SHM)    : ∀ (n : Nat) (y1 : Int32) (y2 : Int32) (y3 : Int32) (σ : MS) , GE X Ω 4 0 0 (emWI) 0 0 19 [(0, .ref 0), (1, .int y1), (2, .int y2), (3, .int y3)] [] σ (b_X12_stops_19  n y1 y2 y3 σ)
  | 0, _, _, _, _ => g_none
  | n + 1, y1, y2, y3, σ => by
    have hk19 := c_X12_stops_19 hX hO hΩ  n
    unfold b_X12_stops_19
    refine g_iload_n hX (dc_X12_stops 12 rfl) rfl 3 rfl ?_
    refine g_sipush (w := (200 : Int32)) hX (dc_X12_stops 13 rfl) (by decide) ?_
    refine g_icmp_ge (tgt := 67) hX (dc_X12_stops 14 rfl) (by decide) (fun h11 => ?_) (fun h11 => ?_)
    · exact g_sub [0, 2] rfl (c_X12_stops_67 hX hO hΩ (y2) σ)
    · refine g_iload_n hX (dc_X12_stops 15 rfl) rfl 2 rfl ?_
      refine g_bipush (w := (-2 : Int32)) hX (dc_X12_stops 16 rfl) (by decide) ?_
      refine g_icmp_ne (tgt := 67) hX (dc_X12_stops 17 rfl) (by decide) (fun h12 => ?_) (fun h12 => ?_)
      · refine g_aload_n hX (dc_X12_stops 18 rfl) rfl 0 rfl ?_
        refine gV_WI (As := []) (st := []) hX (dc_X12_stops 19 rfl) ml_X12_428 (con_X12_goes hO hΩ σ) (stS hΩ 0 rfl) rfl rfl ⟨by decide, by decide⟩ ⟨rfl, rfl⟩ ⟨Nat.zero_le _, Nat.zero_le _⟩ (Nat.le_of_ble_eq_true rfl) (fun r13 _ => ?_)
        refine g_pop hX (dc_X12_stops 20 rfl) rfl ?_
        refine g_aload_n hX (dc_X12_stops 21 rfl) rfl 0 rfl ?_
        refine g_getF (q := 9) hX (dc_X12_stops 22 rfl) fl_X12_34 (by decide) rfl (stS hΩ 0 rfl) rfl ?_
        refine g_iload_n hX (dc_X12_stops 23 rfl) rfl 1 rfl ?_
        refine g_chk (fun hc14 => ?_)
        refine g_iald hX (dc_X12_stops 24 rfl) (stS hΩ 9 rfl) hc14 rfl ?_
        refine g_iconst (w := (-1 : Int32)) hX (dc_X12_stops 25 rfl) (by decide) ?_
        refine g_icmp_ne (tgt := 58) hX (dc_X12_stops 26 rfl) (by decide) (fun h15 => ?_) (fun h15 => ?_)
        · refine g_aload_n hX (dc_X12_stops 27 rfl) rfl 0 rfl ?_
          refine g_getF (q := 1) hX (dc_X12_stops 28 rfl) fl_X12_9 (by decide) rfl (stS hΩ 0 rfl) rfl ?_
          refine g_iconst (w := (5 : Int32)) hX (dc_X12_stops 29 rfl) (by decide) ?_
          refine g_iald (j := 5) hX (dc_X12_stops 30 rfl) (stS hΩ 1 rfl) (by decide) (by decide) ?_
          refine g_iconst (w := (1 : Int32)) hX (dc_X12_stops 31 rfl) (by decide) ?_
          refine g_isub hX (dc_X12_stops 32 rfl) ?_
          refine g_goto (tgt := 60) hX (dc_X12_stops 33 rfl) (by decide) ?_
          exact g_sub [0, 1, 3] rfl (c_X12_stops_60 hX hO hΩ _ hk19 (y1) (y3) (((sI r13.2 1 5) - (1 : Int32))) r13.2)
        · refine g_bipush (w := (-2 : Int32)) hX (dc_X12_stops 34 rfl) (by decide) ?_
          exact g_sub [0, 1, 3] rfl (c_X12_stops_60 hX hO hΩ _ hk19 (y1) (y3) ((-2 : Int32)) r13.2)
      · exact g_sub [0, 2] rfl (c_X12_stops_67 hX hO hΩ (y2) σ)
def b_X12_stops_0   (x1 : Int32)  (σ : MS) : Option (Int32 × MS) := (f_X12_doesGo x1 σ).bind (fun r16 => (if r16 = 0 then some ((-1 : Int32), σ) else (f_X12_keepsAll σ).bind (fun r18 => (b_X12_stops_19 FU (x1) ((-2 : Int32)) ((0 : Int32)) r18))))
set_option maxHeartbeats 4000000 in
set_option maxRecDepth 20000 in
theorem c_X12_stops_0 {X : CX} {Ω : OM} (hX : CF X Ω RX12 cX12_stops 4 (some .int) rm_X12_stops) (hO : OKO Ω) (hΩ : oSH Ω = SHM)    (x1 : Int32)  (σ : MS)  : GE X Ω 4 0 0 (emWI) 0 0 0 [(0, .ref 0), (1, .int x1)] [] σ (b_X12_stops_0  x1 σ) := by
  unfold b_X12_stops_0
  refine g_aload_n hX (dc_X12_stops 0 rfl) rfl 0 rfl ?_
  refine g_iload_n hX (dc_X12_stops 1 rfl) rfl 1 rfl ?_
  refine gV_PI (As := [.int x1]) (st := []) hX (dc_X12_stops 2 rfl) ml_X12_454 (con_X12_doesGo hO hΩ x1 σ) (stS hΩ 0 rfl) rfl rfl ⟨by decide, by decide⟩ ⟨rfl, rfl⟩ ⟨Nat.zero_le _, Nat.zero_le _⟩ (Nat.le_of_ble_eq_true rfl) (fun r16 _ => ?_)
  refine g_if_ne (tgt := 10) hX (dc_X12_stops 3 rfl) (by decide) (fun h17 => ?_) (fun h17 => ?_)
  · refine g_iconst (w := (-1 : Int32)) hX (dc_X12_stops 4 rfl) (by decide) ?_
    exact g_iret hX (dc_X12_stops 5 rfl) rfl rfl (Nat.le_refl _) (Nat.le_refl _)
  · refine g_aload_n hX (dc_X12_stops 6 rfl) rfl 0 rfl ?_
    refine gV_WV (As := []) (st := []) hX (dc_X12_stops 7 rfl) ml_X12_462 (con_X12_keepsAll hO hΩ σ) (stS hΩ 0 rfl) rfl rfl ⟨by decide, by decide⟩ ⟨rfl, rfl⟩ ⟨Nat.zero_le _, Nat.zero_le _⟩ (Nat.le_of_ble_eq_true rfl) (fun r18 _ => ?_)
    refine g_bipush (w := (-2 : Int32)) hX (dc_X12_stops 8 rfl) (by decide) ?_
    refine g_istore_n (L' := [(2, .int (-2 : Int32)), (0, .ref 0), (1, .int x1)]) hX (dc_X12_stops 9 rfl) rfl (by decide) rfl ?_
    refine g_iconst (w := (0 : Int32)) hX (dc_X12_stops 10 rfl) (by decide) ?_
    refine g_istore_n (L' := [(3, .int (0 : Int32)), (2, .int (-2 : Int32)), (0, .ref 0), (1, .int x1)]) hX (dc_X12_stops 11 rfl) rfl (by decide) rfl ?_
    exact g_sub [2, 3, 1, 0] rfl (c_X12_stops_19 hX hO hΩ FU (x1) ((-2 : Int32)) ((0 : Int32)) r18)
def f_X12_stops (x1 : Int32) (σ : MS) : Option (Int32 × MS) := b_X12_stops_0  x1 σ
theorem con_X12_stops {Ω : OM} (hO : OKO Ω) (hΩ : oSH Ω = SHM) (x1 : Int32) (σ : MS)  : Con Ω yX12_stops cX12_stops 4 (some .int) rm_X12_stops (emWI) [.ref 0, .int x1] σ (f_X12_stops x1 σ) :=
  con_of hO (by decide +kernel) (Nat.le_of_ble_eq_true rfl) rfl (fun X hX _ => c_X12_stops_0 hX hO hΩ   x1 σ )
def it_X12_save : List (Nat × Instr × Nat × Nat) := [(0, .aload_n 0, 1, 1), (1, .iload_n 1, 1, 2), (2, .invokevirtual 393, 3, 5), (5, .ifCond .eq 11, 3, 8), (8, .aload_n 0, 1, 9), (9, .iload_n 2, 1, 10), (10, .invokevirtual 390, 3, 13), (13, .ifCond .ne 5, 3, 16), (16, .iconst (-1), 1, 17), (17, .ireturn, 1, 18), (18, .aload_n 0, 1, 19), (19, .invokevirtual 462, 3, 22), (22, .bipush (-2), 2, 24), (24, .istore_n 3, 1, 25), (25, .iconst 0, 1, 26), (26, .istore 4, 2, 28), (28, .iload 4, 2, 30), (30, .sipush 200, 3, 33), (33, .if_icmp .ge 47, 3, 36), (36, .iload_n 3, 1, 37), (37, .bipush (-2), 2, 39), (39, .if_icmp .ne 41, 3, 42), (42, .aload_n 0, 1, 43), (43, .getfield 19, 3, 46), (46, .iload_n 1, 1, 47), (47, .iaload, 1, 48), (48, .aload_n 0, 1, 49), (49, .getfield 13, 3, 52), (52, .iload_n 2, 1, 53), (53, .iaload, 1, 54), (54, .if_icmp .lt 12, 3, 57), (57, .aload_n 0, 1, 58), (58, .getfield 9, 3, 61), (61, .iconst 5, 1, 62), (62, .iaload, 1, 63), (63, .goto 5, 3, 66), (66, .bipush (-2), 2, 68), (68, .istore_n 3, 1, 69), (69, .aload_n 0, 1, 70), (70, .invokevirtual 428, 3, 73), (73, .pop, 1, 74), (74, .iinc 4 1, 3, 77), (77, .goto (-49), 3, 80), (80, .aload_n 0, 1, 81), (81, .invokevirtual 468, 3, 84), (84, .iload_n 3, 1, 85), (85, .ireturn, 1, 86)]
theorem id_X12_save : ∀ q ∈ it_X12_save, decode cX12_save q.1 = .ok (q.2.1, q.2.2.1) ∧ q.1 + q.2.2.1 = q.2.2.2 := by decide +kernel
theorem dc_X12_save {pc : Nat} {i : Instr} {n pc' : Nat} (j : Nat) (h : it_X12_save[j]? = some (pc, i, n, pc')) : Dc cX12_save pc i n pc' := dc_of id_X12_save j h
abbrev rm_X12_save : Room := { frames := 7, cells := 0, slots := 0, locals := 165 }
def b_X12_save_80    (y3 : Int32) (σ : MS) : Option (Int32 × MS) := (f_X12_laysBack σ).bind (fun r13 => some (y3, r13))
set_option maxHeartbeats 4000000 in
set_option maxRecDepth 20000 in
theorem c_X12_save_80 {X : CX} {Ω : OM} (hX : CF X Ω RX12 cX12_save 5 (some .int) rm_X12_save) (hO : OKO Ω) (hΩ : oSH Ω = SHM)     (y3 : Int32) (σ : MS)  : GE X Ω 5 0 0 (emWI) 0 0 80 [(0, .ref 0), (3, .int y3)] [] σ (b_X12_save_80  y3 σ) := by
  unfold b_X12_save_80
  refine g_aload_n hX (dc_X12_save 43 rfl) rfl 0 rfl ?_
  refine gV_WV (As := []) (st := []) hX (dc_X12_save 44 rfl) ml_X12_468 (con_X12_laysBack hO hΩ σ) (stS hΩ 0 rfl) rfl rfl ⟨by decide, by decide⟩ ⟨rfl, rfl⟩ ⟨Nat.zero_le _, Nat.zero_le _⟩ (Nat.le_of_ble_eq_true rfl) (fun r13 _ => ?_)
  refine g_iload_n hX (dc_X12_save 45 rfl) rfl 1 rfl ?_
  exact g_iret hX (dc_X12_save 46 rfl) rfl rfl (Nat.le_refl _) (Nat.le_refl _)
def b_X12_save_68  (k28 : Int32 → Int32 → Int32 → Int32 → MS → Option (Int32 × MS))  (y1 : Int32) (y2 : Int32) (y4 : Int32) (s0 : Int32) (σ : MS) : Option (Int32 × MS) := (f_X12_goes σ).bind (fun r14 => (k28 (y1) (y2) (s0) ((y4 + (1 : Int32))) r14.2))
set_option maxHeartbeats 4000000 in
set_option maxRecDepth 20000 in
theorem c_X12_save_68 {X : CX} {Ω : OM} (hX : CF X Ω RX12 cX12_save 5 (some .int) rm_X12_save) (hO : OKO Ω) (hΩ : oSH Ω = SHM)   (k28 : Int32 → Int32 → Int32 → Int32 → MS → Option (Int32 × MS)) (hk28 : ∀ (y1 : Int32) (y2 : Int32) (y3 : Int32) (y4 : Int32) (σ : MS) , GE X Ω 5 0 0 (emWI) 0 0 28 [(0, .ref 0), (1, .int y1), (2, .int y2), (3, .int y3), (4, .int y4)] [] σ (k28 y1 y2 y3 y4 σ))  (y1 : Int32) (y2 : Int32) (y4 : Int32) (s0 : Int32) (σ : MS)  : GE X Ω 5 0 0 (emWI) 0 0 68 [(0, .ref 0), (1, .int y1), (2, .int y2), (4, .int y4)] [.int s0] σ (b_X12_save_68  k28 y1 y2 y4 s0 σ) := by
  unfold b_X12_save_68
  refine g_istore_n (L' := [(3, .int s0), (0, .ref 0), (1, .int y1), (2, .int y2), (4, .int y4)]) hX (dc_X12_save 37 rfl) rfl (by decide) rfl ?_
  refine g_aload_n hX (dc_X12_save 38 rfl) rfl 1 rfl ?_
  refine gV_WI (As := []) (st := []) hX (dc_X12_save 39 rfl) ml_X12_428 (con_X12_goes hO hΩ σ) (stS hΩ 0 rfl) rfl rfl ⟨by decide, by decide⟩ ⟨rfl, rfl⟩ ⟨Nat.zero_le _, Nat.zero_le _⟩ (Nat.le_of_ble_eq_true rfl) (fun r14 _ => ?_)
  refine g_pop hX (dc_X12_save 40 rfl) rfl ?_
  refine g_iinc (w := (y4 + (1 : Int32))) (L' := [(4, .int (y4 + (1 : Int32))), (3, .int s0), (0, .ref 0), (1, .int y1), (2, .int y2)]) hX (dc_X12_save 41 rfl) 4 rfl rfl (by decide) rfl ?_
  refine g_goto (tgt := 28) hX (dc_X12_save 42 rfl) (by decide) ?_
  exact g_sub [2, 3, 4, 1, 0] rfl (hk28 (y1) (y2) (s0) ((y4 + (1 : Int32))) r14.2 )
def b_X12_save_28   : Nat → Int32 → Int32 → Int32 → Int32 → MS → Option (Int32 × MS)
  | 0, _, _, _, _, _ => none
  | n + 1, y1, y2, y3, y4, σ => (if (200 : Int32) ≤ y4 then (b_X12_save_80 (y3) σ) else (if y3 = (-2 : Int32) then chk (inb y1 4) (chk (inb y2 5) ((if (sI σ 4 (ix y1)) < (sI σ 2 (ix y2)) then (b_X12_save_68 (b_X12_save_28  n) (y1) (y2) (y4) ((-2 : Int32)) σ) else (b_X12_save_68 (b_X12_save_28  n) (y1) (y2) (y4) ((sI σ 1 5)) σ)))) else (b_X12_save_80 (y3) σ)))
set_option maxHeartbeats 4000000 in
set_option maxRecDepth 20000 in
theorem c_X12_save_28 {X : CX} {Ω : OM} (hX : CF X Ω RX12 cX12_save 5 (some .int) rm_X12_save) (hO : OKO Ω) (hΩ : oSH Ω = SHM)    : ∀ (n : Nat) (y1 : Int32) (y2 : Int32) (y3 : Int32) (y4 : Int32) (σ : MS) , GE X Ω 5 0 0 (emWI) 0 0 28 [(0, .ref 0), (1, .int y1), (2, .int y2), (3, .int y3), (4, .int y4)] [] σ (b_X12_save_28  n y1 y2 y3 y4 σ)
  | 0, _, _, _, _, _ => g_none
  | n + 1, y1, y2, y3, y4, σ => by
    have hk28 := c_X12_save_28 hX hO hΩ  n
    unfold b_X12_save_28
    refine g_iload hX (dc_X12_save 16 rfl) 4 rfl ?_
    refine g_sipush (w := (200 : Int32)) hX (dc_X12_save 17 rfl) (by decide) ?_
    refine g_icmp_ge (tgt := 80) hX (dc_X12_save 18 rfl) (by decide) (fun h15 => ?_) (fun h15 => ?_)
    · exact g_sub [0, 3] rfl (c_X12_save_80 hX hO hΩ (y3) σ)
    · refine g_iload_n hX (dc_X12_save 19 rfl) rfl 3 rfl ?_
      refine g_bipush (w := (-2 : Int32)) hX (dc_X12_save 20 rfl) (by decide) ?_
      refine g_icmp_ne (tgt := 80) hX (dc_X12_save 21 rfl) (by decide) (fun h16 => ?_) (fun h16 => ?_)
      · refine g_aload_n hX (dc_X12_save 22 rfl) rfl 0 rfl ?_
        refine g_getF (q := 4) hX (dc_X12_save 23 rfl) fl_X12_19 (by decide) rfl (stS hΩ 0 rfl) rfl ?_
        refine g_iload_n hX (dc_X12_save 24 rfl) rfl 1 rfl ?_
        refine g_chk (fun hc17 => ?_)
        refine g_iald hX (dc_X12_save 25 rfl) (stS hΩ 4 rfl) hc17 rfl ?_
        refine g_aload_n hX (dc_X12_save 26 rfl) rfl 0 rfl ?_
        refine g_getF (q := 2) hX (dc_X12_save 27 rfl) fl_X12_13 (by decide) rfl (stS hΩ 0 rfl) rfl ?_
        refine g_iload_n hX (dc_X12_save 28 rfl) rfl 2 rfl ?_
        refine g_chk (fun hc18 => ?_)
        refine g_iald hX (dc_X12_save 29 rfl) (stS hΩ 2 rfl) hc18 rfl ?_
        refine g_icmp_lt (tgt := 66) hX (dc_X12_save 30 rfl) (by decide) (fun h19 => ?_) (fun h19 => ?_)
        · refine g_bipush (w := (-2 : Int32)) hX (dc_X12_save 36 rfl) (by decide) ?_
          exact g_sub [0, 1, 2, 4] rfl (c_X12_save_68 hX hO hΩ _ hk28 (y1) (y2) (y4) ((-2 : Int32)) σ)
        · refine g_aload_n hX (dc_X12_save 31 rfl) rfl 0 rfl ?_
          refine g_getF (q := 1) hX (dc_X12_save 32 rfl) fl_X12_9 (by decide) rfl (stS hΩ 0 rfl) rfl ?_
          refine g_iconst (w := (5 : Int32)) hX (dc_X12_save 33 rfl) (by decide) ?_
          refine g_iald (j := 5) hX (dc_X12_save 34 rfl) (stS hΩ 1 rfl) (by decide) (by decide) ?_
          refine g_goto (tgt := 68) hX (dc_X12_save 35 rfl) (by decide) ?_
          exact g_sub [0, 1, 2, 4] rfl (c_X12_save_68 hX hO hΩ _ hk28 (y1) (y2) (y4) ((sI σ 1 5)) σ)
      · exact g_sub [0, 3] rfl (c_X12_save_80 hX hO hΩ (y3) σ)
def b_X12_save_16     (σ : MS) : Option (Int32 × MS) := some ((-1 : Int32), σ)
set_option maxHeartbeats 4000000 in
set_option maxRecDepth 20000 in
theorem c_X12_save_16 {X : CX} {Ω : OM} (hX : CF X Ω RX12 cX12_save 5 (some .int) rm_X12_save) (hO : OKO Ω) (hΩ : oSH Ω = SHM)      (σ : MS)  : GE X Ω 5 0 0 (emWI) 0 0 16 [] [] σ (b_X12_save_16  σ) := by
  unfold b_X12_save_16
  refine g_iconst (w := (-1 : Int32)) hX (dc_X12_save 8 rfl) (by decide) ?_
  exact g_iret hX (dc_X12_save 9 rfl) rfl rfl (Nat.le_refl _) (Nat.le_refl _)
def b_X12_save_0   (x1 : Int32) (x2 : Int32)  (σ : MS) : Option (Int32 × MS) := (f_X12_isPerson x1 σ).bind (fun r20 => (if r20 = 0 then (b_X12_save_16 σ) else (f_X12_isKind x2 σ).bind (fun r22 => (if r22 = 0 then (b_X12_save_16 σ) else (f_X12_keepsAll σ).bind (fun r24 => (b_X12_save_28 FU (x1) (x2) ((-2 : Int32)) ((0 : Int32)) r24))))))
set_option maxHeartbeats 4000000 in
set_option maxRecDepth 20000 in
theorem c_X12_save_0 {X : CX} {Ω : OM} (hX : CF X Ω RX12 cX12_save 5 (some .int) rm_X12_save) (hO : OKO Ω) (hΩ : oSH Ω = SHM)    (x1 : Int32) (x2 : Int32)  (σ : MS)  : GE X Ω 5 0 0 (emWI) 0 0 0 [(0, .ref 0), (1, .int x1), (2, .int x2)] [] σ (b_X12_save_0  x1 x2 σ) := by
  unfold b_X12_save_0
  refine g_aload_n hX (dc_X12_save 0 rfl) rfl 0 rfl ?_
  refine g_iload_n hX (dc_X12_save 1 rfl) rfl 1 rfl ?_
  refine gV_PI (As := [.int x1]) (st := []) hX (dc_X12_save 2 rfl) ml_X12_393 (con_X12_isPerson hO hΩ x1 σ) (stS hΩ 0 rfl) rfl rfl ⟨by decide, by decide⟩ ⟨rfl, rfl⟩ ⟨Nat.zero_le _, Nat.zero_le _⟩ (Nat.le_of_ble_eq_true rfl) (fun r20 _ => ?_)
  refine g_if_eq (tgt := 16) hX (dc_X12_save 3 rfl) (by decide) (fun h21 => ?_) (fun h21 => ?_)
  · exact g_sub [] rfl (c_X12_save_16 hX hO hΩ σ)
  · refine g_aload_n hX (dc_X12_save 4 rfl) rfl 0 rfl ?_
    refine g_iload_n hX (dc_X12_save 5 rfl) rfl 2 rfl ?_
    refine gV_PI (As := [.int x2]) (st := []) hX (dc_X12_save 6 rfl) ml_X12_390 (con_X12_isKind hO hΩ x2 σ) (stS hΩ 0 rfl) rfl rfl ⟨by decide, by decide⟩ ⟨rfl, rfl⟩ ⟨Nat.zero_le _, Nat.zero_le _⟩ (Nat.le_of_ble_eq_true rfl) (fun r22 _ => ?_)
    refine g_if_ne (tgt := 18) hX (dc_X12_save 7 rfl) (by decide) (fun h23 => ?_) (fun h23 => ?_)
    · exact g_sub [] rfl (c_X12_save_16 hX hO hΩ σ)
    · refine g_aload_n hX (dc_X12_save 10 rfl) rfl 0 rfl ?_
      refine gV_WV (As := []) (st := []) hX (dc_X12_save 11 rfl) ml_X12_462 (con_X12_keepsAll hO hΩ σ) (stS hΩ 0 rfl) rfl rfl ⟨by decide, by decide⟩ ⟨rfl, rfl⟩ ⟨Nat.zero_le _, Nat.zero_le _⟩ (Nat.le_of_ble_eq_true rfl) (fun r24 _ => ?_)
      refine g_bipush (w := (-2 : Int32)) hX (dc_X12_save 12 rfl) (by decide) ?_
      refine g_istore_n (L' := [(3, .int (-2 : Int32)), (0, .ref 0), (1, .int x1), (2, .int x2)]) hX (dc_X12_save 13 rfl) rfl (by decide) rfl ?_
      refine g_iconst (w := (0 : Int32)) hX (dc_X12_save 14 rfl) (by decide) ?_
      refine g_istore (L' := [(4, .int (0 : Int32)), (3, .int (-2 : Int32)), (0, .ref 0), (1, .int x1), (2, .int x2)]) hX (dc_X12_save 15 rfl) (by decide) rfl ?_
      exact g_sub [2, 3, 4, 1, 0] rfl (c_X12_save_28 hX hO hΩ FU (x1) (x2) ((-2 : Int32)) ((0 : Int32)) r24)
def f_X12_save (x1 : Int32) (x2 : Int32) (σ : MS) : Option (Int32 × MS) := b_X12_save_0  x1 x2 σ
theorem con_X12_save {Ω : OM} (hO : OKO Ω) (hΩ : oSH Ω = SHM) (x1 : Int32) (x2 : Int32) (σ : MS)  : Con Ω yX12_save cX12_save 5 (some .int) rm_X12_save (emWI) [.ref 0, .int x1, .int x2] σ (f_X12_save x1 x2 σ) :=
  con_of hO (by decide +kernel) (Nat.le_of_ble_eq_true rfl) rfl (fun X hX _ => c_X12_save_0 hX hO hΩ   x1 x2 σ )
def it_X12_laysHandings : List (Nat × Instr × Nat × Nat) := [(0, .iload_n 1, 1, 1), (1, .iconst 1, 1, 2), (2, .isub, 1, 3), (3, .istore_n 2, 1, 4), (4, .iload_n 2, 1, 5), (5, .ifCond .lt 147, 3, 8), (8, .iconst 0, 1, 9), (9, .istore_n 3, 1, 10), (10, .iload_n 3, 1, 11), (11, .aload_n 0, 1, 12), (12, .getfield 9, 3, 15), (15, .iconst 3, 1, 16), (16, .iaload, 1, 17), (17, .if_icmp .ge 129, 3, 20), (20, .iload_n 2, 1, 21), (21, .iload_n 1, 1, 22), (22, .iconst 1, 1, 23), (23, .isub, 1, 24), (24, .if_icmp .ne 7, 3, 27), (27, .iconst 0, 1, 28), (28, .goto 6, 3, 31), (31, .sipush 1000, 3, 34), (34, .istore 4, 2, 36), (36, .iconst 0, 1, 37), (37, .istore 5, 2, 39), (39, .iload 5, 2, 41), (41, .aload_n 0, 1, 42), (42, .getfield 9, 3, 45), (45, .iconst 3, 1, 46), (46, .iaload, 1, 47), (47, .if_icmp .ge 59, 3, 50), (50, .iload_n 2, 1, 51), (51, .iload_n 1, 1, 52), (52, .iconst 1, 1, 53), (53, .isub, 1, 54), (54, .if_icmp .ge 52, 3, 57), (57, .aload_n 0, 1, 58), (58, .getfield 133, 3, 61), (61, .iconst 4, 1, 62), (62, .iload_n 2, 1, 63), (63, .iconst 1, 1, 64), (64, .iadd, 1, 65), (65, .imul, 1, 66), (66, .iload 5, 2, 68), (68, .iadd, 1, 69), (69, .iaload, 1, 70), (70, .iload 5, 2, 72), (72, .iload_n 3, 1, 73), (73, .if_icmp .ne 7, 3, 76), (76, .iconst 0, 1, 77), (77, .goto 4, 3, 80), (80, .iconst 1, 1, 81), (81, .iadd, 1, 82), (82, .istore 6, 2, 84), (84, .iload 6, 2, 86), (86, .iload 4, 2, 88), (88, .if_icmp .ge 8, 3, 91), (91, .iload 6, 2, 93), (93, .goto 5, 3, 96), (96, .iload 4, 2, 98), (98, .istore 4, 2, 100), (100, .iinc 5 1, 3, 103), (103, .goto (-64), 3, 106), (106, .aload_n 0, 1, 107), (107, .getfield 133, 3, 110), (110, .iconst 4, 1, 111), (111, .iload_n 2, 1, 112), (112, .imul, 1, 113), (113, .iload_n 3, 1, 114), (114, .iadd, 1, 115), (115, .aload_n 0, 1, 116), (116, .iload_n 3, 1, 117), (117, .aload_n 0, 1, 118), (118, .getfield 9, 3, 121), (121, .iconst 5, 1, 122), (122, .iaload, 1, 123), (123, .iload_n 2, 1, 124), (124, .iadd, 1, 125), (125, .invokevirtual 381, 3, 128), (128, .ifCond .eq 9, 3, 131), (131, .sipush 1000, 3, 134), (134, .goto 5, 3, 137), (137, .iload 4, 2, 139), (139, .iastore, 1, 140), (140, .iinc 3 1, 3, 143), (143, .goto (-133), 3, 146), (146, .iinc 2 (-1), 3, 149), (149, .goto (-145), 3, 152), (152, .return_, 1, 153)]
theorem id_X12_laysHandings : ∀ q ∈ it_X12_laysHandings, decode cX12_laysHandings q.1 = .ok (q.2.1, q.2.2.1) ∧ q.1 + q.2.2.1 = q.2.2.2 := by decide +kernel
theorem dc_X12_laysHandings {pc : Nat} {i : Instr} {n pc' : Nat} (j : Nat) (h : it_X12_laysHandings[j]? = some (pc, i, n, pc')) : Dc cX12_laysHandings pc i n pc' := dc_of id_X12_laysHandings j h
abbrev rm_X12_laysHandings : Room := { frames := 1, cells := 0, slots := 0, locals := 23 }
def b_X12_laysHandings_139  (k4 : Int32 → Int32 → MS → Option (MS)) (k10 : Int32 → Int32 → Int32 → MS → Option (MS))  (y1 : Int32) (y2 : Int32) (y3 : Int32) (s0 : Int32) (s1 : Int32) (σ : MS) : Option (MS) := chk (inb s1 196) ((k10 (y1) (y2) ((y3 + (1 : Int32))) (wI σ 40 (ix s1) s0)))
set_option maxHeartbeats 4000000 in
set_option maxRecDepth 20000 in
theorem c_X12_laysHandings_139 {X : CX} {Ω : OM} (hX : CF X Ω RX12 cX12_laysHandings 7 none rm_X12_laysHandings) (hO : OKO Ω) (hΩ : oSH Ω = SHM)   (k4 : Int32 → Int32 → MS → Option (MS)) (hk4 : ∀ (y1 : Int32) (y2 : Int32) (σ : MS) , GE X Ω 7 0 0 (emWV) 0 0 4 [(0, .ref 0), (1, .int y1), (2, .int y2)] [] σ (k4 y1 y2 σ)) (k10 : Int32 → Int32 → Int32 → MS → Option (MS)) (hk10 : ∀ (y1 : Int32) (y2 : Int32) (y3 : Int32) (σ : MS) , GE X Ω 7 0 0 (emWV) 0 0 10 [(0, .ref 0), (1, .int y1), (2, .int y2), (3, .int y3)] [] σ (k10 y1 y2 y3 σ))  (y1 : Int32) (y2 : Int32) (y3 : Int32) (s0 : Int32) (s1 : Int32) (σ : MS)  : GE X Ω 7 0 0 (emWV) 0 0 139 [(0, .ref 0), (1, .int y1), (2, .int y2), (3, .int y3)] [.int s0, .int s1, .ref 40] σ (b_X12_laysHandings_139  k4 k10 y1 y2 y3 s0 s1 σ) := by
  unfold b_X12_laysHandings_139
  refine g_chk (fun hc12 => ?_)
  refine g_iast hX (dc_X12_laysHandings 83 rfl) (stS hΩ 40 rfl) hc12 rfl ?_
  refine g_iinc (w := (y3 + (1 : Int32))) (L' := [(3, .int (y3 + (1 : Int32))), (0, .ref 0), (1, .int y1), (2, .int y2)]) hX (dc_X12_laysHandings 84 rfl) 3 rfl rfl (by decide) rfl ?_
  refine g_goto (tgt := 10) hX (dc_X12_laysHandings 85 rfl) (by decide) ?_
  exact g_sub [1, 2, 3, 0] rfl (hk10 (y1) (y2) ((y3 + (1 : Int32))) (wI σ 40 (ix s1) s0) )
def b_X12_laysHandings_106  (k4 : Int32 → Int32 → MS → Option (MS)) (k10 : Int32 → Int32 → Int32 → MS → Option (MS))  (y1 : Int32) (y2 : Int32) (y3 : Int32) (y4 : Int32) (σ : MS) : Option (MS) := (f_X12_isAsleep y3 ((sI σ 1 5) + y2) σ).bind (fun r13 => (if r13 = 0 then (b_X12_laysHandings_139 k4 k10 (y1) (y2) (y3) (y4) ((((4 : Int32) * y2) + y3)) σ) else (b_X12_laysHandings_139 k4 k10 (y1) (y2) (y3) ((1000 : Int32)) ((((4 : Int32) * y2) + y3)) σ)))
set_option maxHeartbeats 4000000 in
set_option maxRecDepth 20000 in
theorem c_X12_laysHandings_106 {X : CX} {Ω : OM} (hX : CF X Ω RX12 cX12_laysHandings 7 none rm_X12_laysHandings) (hO : OKO Ω) (hΩ : oSH Ω = SHM)   (k4 : Int32 → Int32 → MS → Option (MS)) (hk4 : ∀ (y1 : Int32) (y2 : Int32) (σ : MS) , GE X Ω 7 0 0 (emWV) 0 0 4 [(0, .ref 0), (1, .int y1), (2, .int y2)] [] σ (k4 y1 y2 σ)) (k10 : Int32 → Int32 → Int32 → MS → Option (MS)) (hk10 : ∀ (y1 : Int32) (y2 : Int32) (y3 : Int32) (σ : MS) , GE X Ω 7 0 0 (emWV) 0 0 10 [(0, .ref 0), (1, .int y1), (2, .int y2), (3, .int y3)] [] σ (k10 y1 y2 y3 σ))  (y1 : Int32) (y2 : Int32) (y3 : Int32) (y4 : Int32) (σ : MS)  : GE X Ω 7 0 0 (emWV) 0 0 106 [(0, .ref 0), (1, .int y1), (2, .int y2), (3, .int y3), (4, .int y4)] [] σ (b_X12_laysHandings_106  k4 k10 y1 y2 y3 y4 σ) := by
  unfold b_X12_laysHandings_106
  refine g_aload_n hX (dc_X12_laysHandings 63 rfl) rfl 0 rfl ?_
  refine g_getF (q := 40) hX (dc_X12_laysHandings 64 rfl) fl_X12_133 (by decide) rfl (stS hΩ 0 rfl) rfl ?_
  refine g_iconst (w := (4 : Int32)) hX (dc_X12_laysHandings 65 rfl) (by decide) ?_
  refine g_iload_n hX (dc_X12_laysHandings 66 rfl) rfl 2 rfl ?_
  refine g_imul hX (dc_X12_laysHandings 67 rfl) ?_
  refine g_iload_n hX (dc_X12_laysHandings 68 rfl) rfl 3 rfl ?_
  refine g_iadd hX (dc_X12_laysHandings 69 rfl) ?_
  refine g_aload_n hX (dc_X12_laysHandings 70 rfl) rfl 0 rfl ?_
  refine g_iload_n hX (dc_X12_laysHandings 71 rfl) rfl 3 rfl ?_
  refine g_aload_n hX (dc_X12_laysHandings 72 rfl) rfl 0 rfl ?_
  refine g_getF (q := 1) hX (dc_X12_laysHandings 73 rfl) fl_X12_9 (by decide) rfl (stS hΩ 0 rfl) rfl ?_
  refine g_iconst (w := (5 : Int32)) hX (dc_X12_laysHandings 74 rfl) (by decide) ?_
  refine g_iald (j := 5) hX (dc_X12_laysHandings 75 rfl) (stS hΩ 1 rfl) (by decide) (by decide) ?_
  refine g_iload_n hX (dc_X12_laysHandings 76 rfl) rfl 2 rfl ?_
  refine g_iadd hX (dc_X12_laysHandings 77 rfl) ?_
  refine gV_PI (As := [.int y3, .int ((sI σ 1 5) + y2)]) (st := [.int (((4 : Int32) * y2) + y3), .ref 40]) hX (dc_X12_laysHandings 78 rfl) ml_X12_381 (con_X12_isAsleep hO hΩ y3 ((sI σ 1 5) + y2) σ) (stS hΩ 0 rfl) rfl rfl ⟨by decide, by decide⟩ ⟨rfl, rfl⟩ ⟨Nat.zero_le _, Nat.zero_le _⟩ (Nat.le_of_ble_eq_true rfl) (fun r13 _ => ?_)
  refine g_if_eq (tgt := 137) hX (dc_X12_laysHandings 79 rfl) (by decide) (fun h14 => ?_) (fun h14 => ?_)
  · refine g_iload hX (dc_X12_laysHandings 82 rfl) 4 rfl ?_
    exact g_sub [0, 1, 2, 3] rfl (c_X12_laysHandings_139 hX hO hΩ _ hk4 _ hk10 (y1) (y2) (y3) (y4) ((((4 : Int32) * y2) + y3)) σ)
  · refine g_sipush (w := (1000 : Int32)) hX (dc_X12_laysHandings 80 rfl) (by decide) ?_
    refine g_goto (tgt := 139) hX (dc_X12_laysHandings 81 rfl) (by decide) ?_
    exact g_sub [0, 1, 2, 3] rfl (c_X12_laysHandings_139 hX hO hΩ _ hk4 _ hk10 (y1) (y2) (y3) ((1000 : Int32)) ((((4 : Int32) * y2) + y3)) σ)
def b_X12_laysHandings_98  (k4 : Int32 → Int32 → MS → Option (MS)) (k10 : Int32 → Int32 → Int32 → MS → Option (MS)) (k39 : Int32 → Int32 → Int32 → Int32 → Int32 → MS → Option (MS))  (y1 : Int32) (y2 : Int32) (y3 : Int32) (y5 : Int32) (s0 : Int32) (σ : MS) : Option (MS) := (k39 (y1) (y2) (y3) (s0) ((y5 + (1 : Int32))) σ)
set_option maxHeartbeats 4000000 in
set_option maxRecDepth 20000 in
theorem c_X12_laysHandings_98 {X : CX} {Ω : OM} (hX : CF X Ω RX12 cX12_laysHandings 7 none rm_X12_laysHandings) (hO : OKO Ω) (hΩ : oSH Ω = SHM)   (k4 : Int32 → Int32 → MS → Option (MS)) (hk4 : ∀ (y1 : Int32) (y2 : Int32) (σ : MS) , GE X Ω 7 0 0 (emWV) 0 0 4 [(0, .ref 0), (1, .int y1), (2, .int y2)] [] σ (k4 y1 y2 σ)) (k10 : Int32 → Int32 → Int32 → MS → Option (MS)) (hk10 : ∀ (y1 : Int32) (y2 : Int32) (y3 : Int32) (σ : MS) , GE X Ω 7 0 0 (emWV) 0 0 10 [(0, .ref 0), (1, .int y1), (2, .int y2), (3, .int y3)] [] σ (k10 y1 y2 y3 σ)) (k39 : Int32 → Int32 → Int32 → Int32 → Int32 → MS → Option (MS)) (hk39 : ∀ (y1 : Int32) (y2 : Int32) (y3 : Int32) (y4 : Int32) (y5 : Int32) (σ : MS) , GE X Ω 7 0 0 (emWV) 0 0 39 [(0, .ref 0), (1, .int y1), (2, .int y2), (3, .int y3), (4, .int y4), (5, .int y5)] [] σ (k39 y1 y2 y3 y4 y5 σ))  (y1 : Int32) (y2 : Int32) (y3 : Int32) (y5 : Int32) (s0 : Int32) (σ : MS)  : GE X Ω 7 0 0 (emWV) 0 0 98 [(0, .ref 0), (1, .int y1), (2, .int y2), (3, .int y3), (5, .int y5)] [.int s0] σ (b_X12_laysHandings_98  k4 k10 k39 y1 y2 y3 y5 s0 σ) := by
  unfold b_X12_laysHandings_98
  refine g_istore (L' := [(4, .int s0), (0, .ref 0), (1, .int y1), (2, .int y2), (3, .int y3), (5, .int y5)]) hX (dc_X12_laysHandings 60 rfl) (by decide) rfl ?_
  refine g_iinc (w := (y5 + (1 : Int32))) (L' := [(5, .int (y5 + (1 : Int32))), (4, .int s0), (0, .ref 0), (1, .int y1), (2, .int y2), (3, .int y3)]) hX (dc_X12_laysHandings 61 rfl) 5 rfl rfl (by decide) rfl ?_
  refine g_goto (tgt := 39) hX (dc_X12_laysHandings 62 rfl) (by decide) ?_
  exact g_sub [2, 3, 4, 5, 1, 0] rfl (hk39 (y1) (y2) (y3) (s0) ((y5 + (1 : Int32))) σ )
def b_X12_laysHandings_81  (k4 : Int32 → Int32 → MS → Option (MS)) (k10 : Int32 → Int32 → Int32 → MS → Option (MS)) (k39 : Int32 → Int32 → Int32 → Int32 → Int32 → MS → Option (MS))  (y1 : Int32) (y2 : Int32) (y3 : Int32) (y4 : Int32) (y5 : Int32) (s0 : Int32) (s1 : Int32) (σ : MS) : Option (MS) := (if y4 ≤ (s1 + s0) then (b_X12_laysHandings_98 k4 k10 k39 (y1) (y2) (y3) (y5) (y4) σ) else (b_X12_laysHandings_98 k4 k10 k39 (y1) (y2) (y3) (y5) ((s1 + s0)) σ))
set_option maxHeartbeats 4000000 in
set_option maxRecDepth 20000 in
theorem c_X12_laysHandings_81 {X : CX} {Ω : OM} (hX : CF X Ω RX12 cX12_laysHandings 7 none rm_X12_laysHandings) (hO : OKO Ω) (hΩ : oSH Ω = SHM)   (k4 : Int32 → Int32 → MS → Option (MS)) (hk4 : ∀ (y1 : Int32) (y2 : Int32) (σ : MS) , GE X Ω 7 0 0 (emWV) 0 0 4 [(0, .ref 0), (1, .int y1), (2, .int y2)] [] σ (k4 y1 y2 σ)) (k10 : Int32 → Int32 → Int32 → MS → Option (MS)) (hk10 : ∀ (y1 : Int32) (y2 : Int32) (y3 : Int32) (σ : MS) , GE X Ω 7 0 0 (emWV) 0 0 10 [(0, .ref 0), (1, .int y1), (2, .int y2), (3, .int y3)] [] σ (k10 y1 y2 y3 σ)) (k39 : Int32 → Int32 → Int32 → Int32 → Int32 → MS → Option (MS)) (hk39 : ∀ (y1 : Int32) (y2 : Int32) (y3 : Int32) (y4 : Int32) (y5 : Int32) (σ : MS) , GE X Ω 7 0 0 (emWV) 0 0 39 [(0, .ref 0), (1, .int y1), (2, .int y2), (3, .int y3), (4, .int y4), (5, .int y5)] [] σ (k39 y1 y2 y3 y4 y5 σ))  (y1 : Int32) (y2 : Int32) (y3 : Int32) (y4 : Int32) (y5 : Int32) (s0 : Int32) (s1 : Int32) (σ : MS)  : GE X Ω 7 0 0 (emWV) 0 0 81 [(0, .ref 0), (1, .int y1), (2, .int y2), (3, .int y3), (4, .int y4), (5, .int y5)] [.int s0, .int s1] σ (b_X12_laysHandings_81  k4 k10 k39 y1 y2 y3 y4 y5 s0 s1 σ) := by
  unfold b_X12_laysHandings_81
  refine g_iadd hX (dc_X12_laysHandings 52 rfl) ?_
  refine g_istore (L' := [(6, .int (s1 + s0)), (0, .ref 0), (1, .int y1), (2, .int y2), (3, .int y3), (4, .int y4), (5, .int y5)]) hX (dc_X12_laysHandings 53 rfl) (by decide) rfl ?_
  refine g_iload hX (dc_X12_laysHandings 54 rfl) 0 rfl ?_
  refine g_iload hX (dc_X12_laysHandings 55 rfl) 5 rfl ?_
  refine g_icmp_ge (tgt := 96) hX (dc_X12_laysHandings 56 rfl) (by decide) (fun h15 => ?_) (fun h15 => ?_)
  · refine g_iload hX (dc_X12_laysHandings 59 rfl) 5 rfl ?_
    exact g_sub [1, 2, 3, 4, 6] rfl (c_X12_laysHandings_98 hX hO hΩ _ hk4 _ hk10 _ hk39 (y1) (y2) (y3) (y5) (y4) σ)
  · refine g_iload hX (dc_X12_laysHandings 57 rfl) 0 rfl ?_
    refine g_goto (tgt := 98) hX (dc_X12_laysHandings 58 rfl) (by decide) ?_
    exact g_sub [1, 2, 3, 4, 6] rfl (c_X12_laysHandings_98 hX hO hΩ _ hk4 _ hk10 _ hk39 (y1) (y2) (y3) (y5) ((s1 + s0)) σ)
def b_X12_laysHandings_39  (k4 : Int32 → Int32 → MS → Option (MS)) (k10 : Int32 → Int32 → Int32 → MS → Option (MS)) : Nat → Int32 → Int32 → Int32 → Int32 → Int32 → MS → Option (MS)
  | 0, _, _, _, _, _, _ => none
  | n + 1, y1, y2, y3, y4, y5, σ => (if (sI σ 1 3) ≤ y5 then (b_X12_laysHandings_106 k4 k10 (y1) (y2) (y3) (y4) σ) else (if (y1 - (1 : Int32)) ≤ y2 then (b_X12_laysHandings_106 k4 k10 (y1) (y2) (y3) (y4) σ) else chk (inb (((4 : Int32) * (y2 + (1 : Int32))) + y5) 196) ((if y5 = y3 then (b_X12_laysHandings_81 k4 k10 (b_X12_laysHandings_39  k4 k10 n) (y1) (y2) (y3) (y4) (y5) ((0 : Int32)) ((sI σ 40 (ix (((4 : Int32) * (y2 + (1 : Int32))) + y5)))) σ) else (b_X12_laysHandings_81 k4 k10 (b_X12_laysHandings_39  k4 k10 n) (y1) (y2) (y3) (y4) (y5) ((1 : Int32)) ((sI σ 40 (ix (((4 : Int32) * (y2 + (1 : Int32))) + y5)))) σ)))))
set_option maxHeartbeats 4000000 in
set_option maxRecDepth 20000 in
theorem c_X12_laysHandings_39 {X : CX} {Ω : OM} (hX : CF X Ω RX12 cX12_laysHandings 7 none rm_X12_laysHandings) (hO : OKO Ω) (hΩ : oSH Ω = SHM)   (k4 : Int32 → Int32 → MS → Option (MS)) (hk4 : ∀ (y1 : Int32) (y2 : Int32) (σ : MS) , GE X Ω 7 0 0 (emWV) 0 0 4 [(0, .ref 0), (1, .int y1), (2, .int y2)] [] σ (k4 y1 y2 σ)) (k10 : Int32 → Int32 → Int32 → MS → Option (MS)) (hk10 : ∀ (y1 : Int32) (y2 : Int32) (y3 : Int32) (σ : MS) , GE X Ω 7 0 0 (emWV) 0 0 10 [(0, .ref 0), (1, .int y1), (2, .int y2), (3, .int y3)] [] σ (k10 y1 y2 y3 σ)) : ∀ (n : Nat) (y1 : Int32) (y2 : Int32) (y3 : Int32) (y4 : Int32) (y5 : Int32) (σ : MS) , GE X Ω 7 0 0 (emWV) 0 0 39 [(0, .ref 0), (1, .int y1), (2, .int y2), (3, .int y3), (4, .int y4), (5, .int y5)] [] σ (b_X12_laysHandings_39  k4 k10 n y1 y2 y3 y4 y5 σ)
  | 0, _, _, _, _, _, _ => g_none
  | n + 1, y1, y2, y3, y4, y5, σ => by
    have hk39 := c_X12_laysHandings_39 hX hO hΩ  k4 hk4 k10 hk10 n
    unfold b_X12_laysHandings_39
    refine g_iload hX (dc_X12_laysHandings 25 rfl) 5 rfl ?_
    refine g_aload_n hX (dc_X12_laysHandings 26 rfl) rfl 0 rfl ?_
    refine g_getF (q := 1) hX (dc_X12_laysHandings 27 rfl) fl_X12_9 (by decide) rfl (stS hΩ 0 rfl) rfl ?_
    refine g_iconst (w := (3 : Int32)) hX (dc_X12_laysHandings 28 rfl) (by decide) ?_
    refine g_iald (j := 3) hX (dc_X12_laysHandings 29 rfl) (stS hΩ 1 rfl) (by decide) (by decide) ?_
    refine g_icmp_ge (tgt := 106) hX (dc_X12_laysHandings 30 rfl) (by decide) (fun h16 => ?_) (fun h16 => ?_)
    · exact g_sub [0, 1, 2, 3, 4] rfl (c_X12_laysHandings_106 hX hO hΩ _ hk4 _ hk10 (y1) (y2) (y3) (y4) σ)
    · refine g_iload_n hX (dc_X12_laysHandings 31 rfl) rfl 2 rfl ?_
      refine g_iload_n hX (dc_X12_laysHandings 32 rfl) rfl 1 rfl ?_
      refine g_iconst (w := (1 : Int32)) hX (dc_X12_laysHandings 33 rfl) (by decide) ?_
      refine g_isub hX (dc_X12_laysHandings 34 rfl) ?_
      refine g_icmp_ge (tgt := 106) hX (dc_X12_laysHandings 35 rfl) (by decide) (fun h17 => ?_) (fun h17 => ?_)
      · exact g_sub [0, 1, 2, 3, 4] rfl (c_X12_laysHandings_106 hX hO hΩ _ hk4 _ hk10 (y1) (y2) (y3) (y4) σ)
      · refine g_aload_n hX (dc_X12_laysHandings 36 rfl) rfl 0 rfl ?_
        refine g_getF (q := 40) hX (dc_X12_laysHandings 37 rfl) fl_X12_133 (by decide) rfl (stS hΩ 0 rfl) rfl ?_
        refine g_iconst (w := (4 : Int32)) hX (dc_X12_laysHandings 38 rfl) (by decide) ?_
        refine g_iload_n hX (dc_X12_laysHandings 39 rfl) rfl 2 rfl ?_
        refine g_iconst (w := (1 : Int32)) hX (dc_X12_laysHandings 40 rfl) (by decide) ?_
        refine g_iadd hX (dc_X12_laysHandings 41 rfl) ?_
        refine g_imul hX (dc_X12_laysHandings 42 rfl) ?_
        refine g_iload hX (dc_X12_laysHandings 43 rfl) 5 rfl ?_
        refine g_iadd hX (dc_X12_laysHandings 44 rfl) ?_
        refine g_chk (fun hc18 => ?_)
        refine g_iald hX (dc_X12_laysHandings 45 rfl) (stS hΩ 40 rfl) hc18 rfl ?_
        refine g_iload hX (dc_X12_laysHandings 46 rfl) 5 rfl ?_
        refine g_iload_n hX (dc_X12_laysHandings 47 rfl) rfl 3 rfl ?_
        refine g_icmp_ne (tgt := 80) hX (dc_X12_laysHandings 48 rfl) (by decide) (fun h19 => ?_) (fun h19 => ?_)
        · refine g_iconst (w := (0 : Int32)) hX (dc_X12_laysHandings 49 rfl) (by decide) ?_
          refine g_goto (tgt := 81) hX (dc_X12_laysHandings 50 rfl) (by decide) ?_
          exact g_sub [0, 1, 2, 3, 4, 5] rfl (c_X12_laysHandings_81 hX hO hΩ _ hk4 _ hk10 _ hk39 (y1) (y2) (y3) (y4) (y5) ((0 : Int32)) ((sI σ 40 (ix (((4 : Int32) * (y2 + (1 : Int32))) + y5)))) σ)
        · refine g_iconst (w := (1 : Int32)) hX (dc_X12_laysHandings 51 rfl) (by decide) ?_
          exact g_sub [0, 1, 2, 3, 4, 5] rfl (c_X12_laysHandings_81 hX hO hΩ _ hk4 _ hk10 _ hk39 (y1) (y2) (y3) (y4) (y5) ((1 : Int32)) ((sI σ 40 (ix (((4 : Int32) * (y2 + (1 : Int32))) + y5)))) σ)
def b_X12_laysHandings_34  (k4 : Int32 → Int32 → MS → Option (MS)) (k10 : Int32 → Int32 → Int32 → MS → Option (MS))  (y1 : Int32) (y2 : Int32) (y3 : Int32) (s0 : Int32) (σ : MS) : Option (MS) := (b_X12_laysHandings_39 k4 k10 FU (y1) (y2) (y3) (s0) ((0 : Int32)) σ)
set_option maxHeartbeats 4000000 in
set_option maxRecDepth 20000 in
theorem c_X12_laysHandings_34 {X : CX} {Ω : OM} (hX : CF X Ω RX12 cX12_laysHandings 7 none rm_X12_laysHandings) (hO : OKO Ω) (hΩ : oSH Ω = SHM)   (k4 : Int32 → Int32 → MS → Option (MS)) (hk4 : ∀ (y1 : Int32) (y2 : Int32) (σ : MS) , GE X Ω 7 0 0 (emWV) 0 0 4 [(0, .ref 0), (1, .int y1), (2, .int y2)] [] σ (k4 y1 y2 σ)) (k10 : Int32 → Int32 → Int32 → MS → Option (MS)) (hk10 : ∀ (y1 : Int32) (y2 : Int32) (y3 : Int32) (σ : MS) , GE X Ω 7 0 0 (emWV) 0 0 10 [(0, .ref 0), (1, .int y1), (2, .int y2), (3, .int y3)] [] σ (k10 y1 y2 y3 σ))  (y1 : Int32) (y2 : Int32) (y3 : Int32) (s0 : Int32) (σ : MS)  : GE X Ω 7 0 0 (emWV) 0 0 34 [(0, .ref 0), (1, .int y1), (2, .int y2), (3, .int y3)] [.int s0] σ (b_X12_laysHandings_34  k4 k10 y1 y2 y3 s0 σ) := by
  unfold b_X12_laysHandings_34
  refine g_istore (L' := [(4, .int s0), (0, .ref 0), (1, .int y1), (2, .int y2), (3, .int y3)]) hX (dc_X12_laysHandings 22 rfl) (by decide) rfl ?_
  refine g_iconst (w := (0 : Int32)) hX (dc_X12_laysHandings 23 rfl) (by decide) ?_
  refine g_istore (L' := [(5, .int (0 : Int32)), (4, .int s0), (0, .ref 0), (1, .int y1), (2, .int y2), (3, .int y3)]) hX (dc_X12_laysHandings 24 rfl) (by decide) rfl ?_
  exact g_sub [2, 3, 4, 5, 1, 0] rfl (c_X12_laysHandings_39 hX hO hΩ _ hk4 _ hk10 FU (y1) (y2) (y3) (s0) ((0 : Int32)) σ)
def b_X12_laysHandings_10  (k4 : Int32 → Int32 → MS → Option (MS)) : Nat → Int32 → Int32 → Int32 → MS → Option (MS)
  | 0, _, _, _, _ => none
  | n + 1, y1, y2, y3, σ => (if (sI σ 1 3) ≤ y3 then (k4 (y1) ((y2 + (-1 : Int32))) σ) else (if y2 = (y1 - (1 : Int32)) then (b_X12_laysHandings_34 k4 (b_X12_laysHandings_10  k4 n) (y1) (y2) (y3) ((0 : Int32)) σ) else (b_X12_laysHandings_34 k4 (b_X12_laysHandings_10  k4 n) (y1) (y2) (y3) ((1000 : Int32)) σ)))
set_option maxHeartbeats 4000000 in
set_option maxRecDepth 20000 in
theorem c_X12_laysHandings_10 {X : CX} {Ω : OM} (hX : CF X Ω RX12 cX12_laysHandings 7 none rm_X12_laysHandings) (hO : OKO Ω) (hΩ : oSH Ω = SHM)   (k4 : Int32 → Int32 → MS → Option (MS)) (hk4 : ∀ (y1 : Int32) (y2 : Int32) (σ : MS) , GE X Ω 7 0 0 (emWV) 0 0 4 [(0, .ref 0), (1, .int y1), (2, .int y2)] [] σ (k4 y1 y2 σ)) : ∀ (n : Nat) (y1 : Int32) (y2 : Int32) (y3 : Int32) (σ : MS) , GE X Ω 7 0 0 (emWV) 0 0 10 [(0, .ref 0), (1, .int y1), (2, .int y2), (3, .int y3)] [] σ (b_X12_laysHandings_10  k4 n y1 y2 y3 σ)
  | 0, _, _, _, _ => g_none
  | n + 1, y1, y2, y3, σ => by
    have hk10 := c_X12_laysHandings_10 hX hO hΩ  k4 hk4 n
    unfold b_X12_laysHandings_10
    refine g_iload_n hX (dc_X12_laysHandings 8 rfl) rfl 3 rfl ?_
    refine g_aload_n hX (dc_X12_laysHandings 9 rfl) rfl 0 rfl ?_
    refine g_getF (q := 1) hX (dc_X12_laysHandings 10 rfl) fl_X12_9 (by decide) rfl (stS hΩ 0 rfl) rfl ?_
    refine g_iconst (w := (3 : Int32)) hX (dc_X12_laysHandings 11 rfl) (by decide) ?_
    refine g_iald (j := 3) hX (dc_X12_laysHandings 12 rfl) (stS hΩ 1 rfl) (by decide) (by decide) ?_
    refine g_icmp_ge (tgt := 146) hX (dc_X12_laysHandings 13 rfl) (by decide) (fun h20 => ?_) (fun h20 => ?_)
    · refine g_iinc (w := (y2 + (-1 : Int32))) (L' := [(2, .int (y2 + (-1 : Int32))), (0, .ref 0), (1, .int y1), (3, .int y3)]) hX (dc_X12_laysHandings 86 rfl) 2 rfl rfl (by decide) rfl ?_
      refine g_goto (tgt := 4) hX (dc_X12_laysHandings 87 rfl) (by decide) ?_
      exact g_sub [1, 2, 0] rfl (hk4 (y1) ((y2 + (-1 : Int32))) σ )
    · refine g_iload_n hX (dc_X12_laysHandings 14 rfl) rfl 2 rfl ?_
      refine g_iload_n hX (dc_X12_laysHandings 15 rfl) rfl 1 rfl ?_
      refine g_iconst (w := (1 : Int32)) hX (dc_X12_laysHandings 16 rfl) (by decide) ?_
      refine g_isub hX (dc_X12_laysHandings 17 rfl) ?_
      refine g_icmp_ne (tgt := 31) hX (dc_X12_laysHandings 18 rfl) (by decide) (fun h21 => ?_) (fun h21 => ?_)
      · refine g_iconst (w := (0 : Int32)) hX (dc_X12_laysHandings 19 rfl) (by decide) ?_
        refine g_goto (tgt := 34) hX (dc_X12_laysHandings 20 rfl) (by decide) ?_
        exact g_sub [0, 1, 2, 3] rfl (c_X12_laysHandings_34 hX hO hΩ _ hk4 _ hk10 (y1) (y2) (y3) ((0 : Int32)) σ)
      · refine g_sipush (w := (1000 : Int32)) hX (dc_X12_laysHandings 21 rfl) (by decide) ?_
        exact g_sub [0, 1, 2, 3] rfl (c_X12_laysHandings_34 hX hO hΩ _ hk4 _ hk10 (y1) (y2) (y3) ((1000 : Int32)) σ)
def b_X12_laysHandings_4   : Nat → Int32 → Int32 → MS → Option (MS)
  | 0, _, _, _ => none
  | n + 1, y1, y2, σ => (if y2 < 0 then some (σ) else (b_X12_laysHandings_10 (b_X12_laysHandings_4  n) FU (y1) (y2) ((0 : Int32)) σ))
set_option maxHeartbeats 4000000 in
set_option maxRecDepth 20000 in
theorem c_X12_laysHandings_4 {X : CX} {Ω : OM} (hX : CF X Ω RX12 cX12_laysHandings 7 none rm_X12_laysHandings) (hO : OKO Ω) (hΩ : oSH Ω = SHM)    : ∀ (n : Nat) (y1 : Int32) (y2 : Int32) (σ : MS) , GE X Ω 7 0 0 (emWV) 0 0 4 [(0, .ref 0), (1, .int y1), (2, .int y2)] [] σ (b_X12_laysHandings_4  n y1 y2 σ)
  | 0, _, _, _ => g_none
  | n + 1, y1, y2, σ => by
    have hk4 := c_X12_laysHandings_4 hX hO hΩ  n
    unfold b_X12_laysHandings_4
    refine g_iload_n hX (dc_X12_laysHandings 4 rfl) rfl 2 rfl ?_
    refine g_if_lt (tgt := 152) hX (dc_X12_laysHandings 5 rfl) (by decide) (fun h22 => ?_) (fun h22 => ?_)
    · exact g_vret hX (dc_X12_laysHandings 88 rfl) rfl (Nat.le_refl _) (Nat.le_refl _)
    · refine g_iconst (w := (0 : Int32)) hX (dc_X12_laysHandings 6 rfl) (by decide) ?_
      refine g_istore_n (L' := [(3, .int (0 : Int32)), (0, .ref 0), (1, .int y1), (2, .int y2)]) hX (dc_X12_laysHandings 7 rfl) rfl (by decide) rfl ?_
      exact g_sub [1, 2, 3, 0] rfl (c_X12_laysHandings_10 hX hO hΩ _ hk4 FU (y1) (y2) ((0 : Int32)) σ)
def b_X12_laysHandings_0   (x1 : Int32)  (σ : MS) : Option (MS) := (b_X12_laysHandings_4 FU (x1) ((x1 - (1 : Int32))) σ)
set_option maxHeartbeats 4000000 in
set_option maxRecDepth 20000 in
theorem c_X12_laysHandings_0 {X : CX} {Ω : OM} (hX : CF X Ω RX12 cX12_laysHandings 7 none rm_X12_laysHandings) (hO : OKO Ω) (hΩ : oSH Ω = SHM)    (x1 : Int32)  (σ : MS)  : GE X Ω 7 0 0 (emWV) 0 0 0 [(0, .ref 0), (1, .int x1)] [] σ (b_X12_laysHandings_0  x1 σ) := by
  unfold b_X12_laysHandings_0
  refine g_iload_n hX (dc_X12_laysHandings 0 rfl) rfl 1 rfl ?_
  refine g_iconst (w := (1 : Int32)) hX (dc_X12_laysHandings 1 rfl) (by decide) ?_
  refine g_isub hX (dc_X12_laysHandings 2 rfl) ?_
  refine g_istore_n (L' := [(2, .int (x1 - (1 : Int32))), (0, .ref 0), (1, .int x1)]) hX (dc_X12_laysHandings 3 rfl) rfl (by decide) rfl ?_
  exact g_sub [1, 2, 0] rfl (c_X12_laysHandings_4 hX hO hΩ FU (x1) ((x1 - (1 : Int32))) σ)
def f_X12_laysHandings (x1 : Int32) (σ : MS) : Option (MS) := b_X12_laysHandings_0  x1 σ
theorem con_X12_laysHandings {Ω : OM} (hO : OKO Ω) (hΩ : oSH Ω = SHM) (x1 : Int32) (σ : MS)  : Con Ω yX12_laysHandings cX12_laysHandings 7 none rm_X12_laysHandings (emWV) [.ref 0, .int x1] σ (f_X12_laysHandings x1 σ) :=
  con_of hO (by decide +kernel) (Nat.le_of_ble_eq_true rfl) rfl (fun X hX _ => c_X12_laysHandings_0 hX hO hΩ   x1 σ )
