def it_X12_relay : List (Nat × Instr × Nat × Nat) := [(0, .aload_n 0, 1, 1), (1, .iload_n 1, 1, 2), (2, .invokevirtual 454, 3, 5), (5, .ifCond .eq 29, 3, 8), (8, .iload_n 2, 1, 9), (9, .i2l, 1, 10), (10, .lconst 1, 1, 11), (11, .ldc2_w 206, 3, 14), (14, .invokestatic 161, 3, 17), (17, .ifCond .eq 17, 3, 20), (20, .iload_n 3, 1, 21), (21, .i2l, 1, 22), (22, .ldc2_w 367, 3, 25), (25, .ldc2_w 471, 3, 28), (28, .invokestatic 161, 3, 31), (31, .ifCond .ne 6, 3, 34), (34, .bipush (-3), 2, 36), (36, .ireturn, 1, 37), (37, .aload_n 0, 1, 38), (38, .iload_n 2, 1, 39), (39, .invokevirtual 473, 3, 42), (42, .aload_n 0, 1, 43), (43, .getfield 34, 3, 46), (46, .iload_n 1, 1, 47), (47, .iaload, 1, 48), (48, .istore 4, 2, 50), (50, .sipush 1000, 3, 53), (53, .istore 5, 2, 55), (55, .iconst 0, 1, 56), (56, .istore 6, 2, 58), (58, .iload 6, 2, 60), (60, .iload_n 2, 1, 61), (61, .if_icmp .ge 121, 3, 64), (64, .iload 6, 2, 66), (66, .iload_n 3, 1, 67), (67, .iconst (-1), 1, 68), (68, .if_icmp .ne 7, 3, 71), (71, .iconst 0, 1, 72), (72, .goto 4, 3, 75), (75, .iload_n 3, 1, 76), (76, .if_icmp .gt 106, 3, 79), (79, .iconst (-1), 1, 80), (80, .istore 7, 2, 82), (82, .sipush 1000, 3, 85), (85, .istore 8, 2, 87), (87, .iconst 0, 1, 88), (88, .istore 9, 2, 90), (90, .iload 9, 2, 92), (92, .aload_n 0, 1, 93), (93, .getfield 9, 3, 96), (96, .iconst 3, 1, 97), (97, .iaload, 1, 98), (98, .if_icmp .ge 51, 3, 101), (101, .aload_n 0, 1, 102), (102, .getfield 133, 3, 105), (105, .iconst 4, 1, 106), (106, .iload 6, 2, 108), (108, .imul, 1, 109), (109, .iload 9, 2, 111), (111, .iadd, 1, 112), (112, .iaload, 1, 113), (113, .iload 9, 2, 115), (115, .iload 4, 2, 117), (117, .if_icmp .ne 7, 3, 120), (120, .iconst 0, 1, 121), (121, .goto 4, 3, 124), (124, .iconst 1, 1, 125), (125, .iadd, 1, 126), (126, .istore 10, 2, 128), (128, .iload 10, 2, 130), (130, .iload 8, 2, 132), (132, .if_icmp .ge 11, 3, 135), (135, .iload 9, 2, 137), (137, .istore 7, 2, 139), (139, .iload 10, 2, 141), (141, .istore 8, 2, 143), (143, .iinc 9 1, 3, 146), (146, .goto (-56), 3, 149), (149, .iload 6, 2, 151), (151, .ifCond .ne 8, 3, 154), (154, .iload 8, 2, 156), (156, .goto 5, 3, 159), (159, .iload 5, 2, 161), (161, .istore 5, 2, 163), (163, .iload 7, 2, 165), (165, .iconst (-1), 1, 166), (166, .if_icmp .ne 6, 3, 169), (169, .bipush (-2), 2, 171), (171, .ireturn, 1, 172), (172, .iload 7, 2, 174), (174, .istore 4, 2, 176), (176, .iinc 6 1, 3, 179), (179, .goto (-121), 3, 182), (182, .iload_n 3, 1, 183), (183, .iconst (-1), 1, 184), (184, .if_icmp .ne 8, 3, 187), (187, .iload 5, 2, 189), (189, .goto 15, 3, 192), (192, .iload_n 3, 1, 193), (193, .iload_n 2, 1, 194), (194, .if_icmp .ge 8, 3, 197), (197, .iload 4, 2, 199), (199, .goto 5, 3, 202), (202, .bipush (-2), 2, 204), (204, .ireturn, 1, 205)]
theorem id_X12_relay : ∀ q ∈ it_X12_relay, decode cX12_relay q.1 = .ok (q.2.1, q.2.2.1) ∧ q.1 + q.2.2.1 = q.2.2.2 := by decide +kernel
theorem dc_X12_relay {pc : Nat} {i : Instr} {n pc' : Nat} (j : Nat) (h : it_X12_relay[j]? = some (pc, i, n, pc')) : Dc cX12_relay pc i n pc' := dc_of id_X12_relay j h
abbrev rm_X12_relay : Room := { frames := 3, cells := 0, slots := 0, locals := 67 }
def b_X12_relay_204    (s0 : Int32) (σ : MS) : Option (Int32 × MS) := some (s0, σ)
set_option maxHeartbeats 4000000 in
set_option maxRecDepth 20000 in
theorem c_X12_relay_204 {X : CX} {Ω : OM} (hX : CF X Ω RX12 cX12_relay 11 (some .int) rm_X12_relay) (hO : OKO Ω) (hΩ : oSH Ω = SHM)     (s0 : Int32) (σ : MS)  : GE X Ω 11 0 0 (emWI) 0 0 204 [] [.int s0] σ (b_X12_relay_204  s0 σ) := by
  unfold b_X12_relay_204
  exact g_iret hX (dc_X12_relay 104 rfl) rfl rfl (Nat.le_refl _) (Nat.le_refl _)
def b_X12_relay_182    (y2 : Int32) (y3 : Int32) (y4 : Int32) (y5 : Int32) (σ : MS) : Option (Int32 × MS) := (if y3 = (-1 : Int32) then (b_X12_relay_204 (y5) σ) else (if y2 ≤ y3 then (b_X12_relay_204 ((-2 : Int32)) σ) else (b_X12_relay_204 (y4) σ)))
set_option maxHeartbeats 4000000 in
set_option maxRecDepth 20000 in
theorem c_X12_relay_182 {X : CX} {Ω : OM} (hX : CF X Ω RX12 cX12_relay 11 (some .int) rm_X12_relay) (hO : OKO Ω) (hΩ : oSH Ω = SHM)     (y2 : Int32) (y3 : Int32) (y4 : Int32) (y5 : Int32) (σ : MS)  : GE X Ω 11 0 0 (emWI) 0 0 182 [(2, .int y2), (3, .int y3), (4, .int y4), (5, .int y5)] [] σ (b_X12_relay_182  y2 y3 y4 y5 σ) := by
  unfold b_X12_relay_182
  refine g_iload_n hX (dc_X12_relay 93 rfl) rfl 1 rfl ?_
  refine g_iconst (w := (-1 : Int32)) hX (dc_X12_relay 94 rfl) (by decide) ?_
  refine g_icmp_ne (tgt := 192) hX (dc_X12_relay 95 rfl) (by decide) (fun h20 => ?_) (fun h20 => ?_)
  · refine g_iload hX (dc_X12_relay 96 rfl) 3 rfl ?_
    refine g_goto (tgt := 204) hX (dc_X12_relay 97 rfl) (by decide) ?_
    exact g_sub [] rfl (c_X12_relay_204 hX hO hΩ (y5) σ)
  · refine g_iload_n hX (dc_X12_relay 98 rfl) rfl 1 rfl ?_
    refine g_iload_n hX (dc_X12_relay 99 rfl) rfl 0 rfl ?_
    refine g_icmp_ge (tgt := 202) hX (dc_X12_relay 100 rfl) (by decide) (fun h21 => ?_) (fun h21 => ?_)
    · refine g_bipush (w := (-2 : Int32)) hX (dc_X12_relay 103 rfl) (by decide) ?_
      exact g_sub [] rfl (c_X12_relay_204 hX hO hΩ ((-2 : Int32)) σ)
    · refine g_iload hX (dc_X12_relay 101 rfl) 2 rfl ?_
      refine g_goto (tgt := 204) hX (dc_X12_relay 102 rfl) (by decide) ?_
      exact g_sub [] rfl (c_X12_relay_204 hX hO hΩ (y4) σ)
def b_X12_relay_161  (k58 : Int32 → Int32 → Int32 → Int32 → Int32 → MS → Option (Int32 × MS))  (y2 : Int32) (y3 : Int32) (y6 : Int32) (y7 : Int32) (s0 : Int32) (σ : MS) : Option (Int32 × MS) := (if y7 = (-1 : Int32) then some ((-2 : Int32), σ) else (k58 (y2) (y3) (y7) (s0) ((y6 + (1 : Int32))) σ))
set_option maxHeartbeats 4000000 in
set_option maxRecDepth 20000 in
theorem c_X12_relay_161 {X : CX} {Ω : OM} (hX : CF X Ω RX12 cX12_relay 11 (some .int) rm_X12_relay) (hO : OKO Ω) (hΩ : oSH Ω = SHM)   (k58 : Int32 → Int32 → Int32 → Int32 → Int32 → MS → Option (Int32 × MS)) (hk58 : ∀ (y2 : Int32) (y3 : Int32) (y4 : Int32) (y5 : Int32) (y6 : Int32) (σ : MS) , GE X Ω 11 0 0 (emWI) 0 0 58 [(0, .ref 0), (2, .int y2), (3, .int y3), (4, .int y4), (5, .int y5), (6, .int y6)] [] σ (k58 y2 y3 y4 y5 y6 σ))  (y2 : Int32) (y3 : Int32) (y6 : Int32) (y7 : Int32) (s0 : Int32) (σ : MS)  : GE X Ω 11 0 0 (emWI) 0 0 161 [(0, .ref 0), (2, .int y2), (3, .int y3), (6, .int y6), (7, .int y7)] [.int s0] σ (b_X12_relay_161  k58 y2 y3 y6 y7 s0 σ) := by
  unfold b_X12_relay_161
  refine g_istore (L' := [(5, .int s0), (0, .ref 0), (2, .int y2), (3, .int y3), (6, .int y6), (7, .int y7)]) hX (dc_X12_relay 83 rfl) (by decide) rfl ?_
  refine g_iload hX (dc_X12_relay 84 rfl) 5 rfl ?_
  refine g_iconst (w := (-1 : Int32)) hX (dc_X12_relay 85 rfl) (by decide) ?_
  refine g_icmp_ne (tgt := 172) hX (dc_X12_relay 86 rfl) (by decide) (fun h22 => ?_) (fun h22 => ?_)
  · refine g_bipush (w := (-2 : Int32)) hX (dc_X12_relay 87 rfl) (by decide) ?_
    exact g_iret hX (dc_X12_relay 88 rfl) rfl rfl (Nat.le_refl _) (Nat.le_refl _)
  · refine g_iload hX (dc_X12_relay 89 rfl) 5 rfl ?_
    refine g_istore (L' := [(4, .int y7), (5, .int s0), (0, .ref 0), (2, .int y2), (3, .int y3), (6, .int y6), (7, .int y7)]) hX (dc_X12_relay 90 rfl) (by decide) rfl ?_
    refine g_iinc (w := (y6 + (1 : Int32))) (L' := [(6, .int (y6 + (1 : Int32))), (4, .int y7), (5, .int s0), (0, .ref 0), (2, .int y2), (3, .int y3), (7, .int y7)]) hX (dc_X12_relay 91 rfl) 5 rfl rfl (by decide) rfl ?_
    refine g_goto (tgt := 58) hX (dc_X12_relay 92 rfl) (by decide) ?_
    exact g_sub [3, 4, 5, 1, 2, 0] rfl (hk58 (y2) (y3) (y7) (s0) ((y6 + (1 : Int32))) σ )
def b_X12_relay_143  (k58 : Int32 → Int32 → Int32 → Int32 → Int32 → MS → Option (Int32 × MS)) (k90 : Int32 → Int32 → Int32 → Int32 → Int32 → Int32 → Int32 → Int32 → MS → Option (Int32 × MS))  (y2 : Int32) (y3 : Int32) (y4 : Int32) (y5 : Int32) (y6 : Int32) (y7 : Int32) (y8 : Int32) (y9 : Int32) (σ : MS) : Option (Int32 × MS) := (k90 (y2) (y3) (y4) (y5) (y6) (y7) (y8) ((y9 + (1 : Int32))) σ)
set_option maxHeartbeats 4000000 in
set_option maxRecDepth 20000 in
theorem c_X12_relay_143 {X : CX} {Ω : OM} (hX : CF X Ω RX12 cX12_relay 11 (some .int) rm_X12_relay) (hO : OKO Ω) (hΩ : oSH Ω = SHM)   (k58 : Int32 → Int32 → Int32 → Int32 → Int32 → MS → Option (Int32 × MS)) (hk58 : ∀ (y2 : Int32) (y3 : Int32) (y4 : Int32) (y5 : Int32) (y6 : Int32) (σ : MS) , GE X Ω 11 0 0 (emWI) 0 0 58 [(0, .ref 0), (2, .int y2), (3, .int y3), (4, .int y4), (5, .int y5), (6, .int y6)] [] σ (k58 y2 y3 y4 y5 y6 σ)) (k90 : Int32 → Int32 → Int32 → Int32 → Int32 → Int32 → Int32 → Int32 → MS → Option (Int32 × MS)) (hk90 : ∀ (y2 : Int32) (y3 : Int32) (y4 : Int32) (y5 : Int32) (y6 : Int32) (y7 : Int32) (y8 : Int32) (y9 : Int32) (σ : MS) , GE X Ω 11 0 0 (emWI) 0 0 90 [(0, .ref 0), (2, .int y2), (3, .int y3), (4, .int y4), (5, .int y5), (6, .int y6), (7, .int y7), (8, .int y8), (9, .int y9)] [] σ (k90 y2 y3 y4 y5 y6 y7 y8 y9 σ))  (y2 : Int32) (y3 : Int32) (y4 : Int32) (y5 : Int32) (y6 : Int32) (y7 : Int32) (y8 : Int32) (y9 : Int32) (σ : MS)  : GE X Ω 11 0 0 (emWI) 0 0 143 [(0, .ref 0), (2, .int y2), (3, .int y3), (4, .int y4), (5, .int y5), (6, .int y6), (7, .int y7), (8, .int y8), (9, .int y9)] [] σ (b_X12_relay_143  k58 k90 y2 y3 y4 y5 y6 y7 y8 y9 σ) := by
  unfold b_X12_relay_143
  refine g_iinc (w := (y9 + (1 : Int32))) (L' := [(9, .int (y9 + (1 : Int32))), (0, .ref 0), (2, .int y2), (3, .int y3), (4, .int y4), (5, .int y5), (6, .int y6), (7, .int y7), (8, .int y8)]) hX (dc_X12_relay 76 rfl) 8 rfl rfl (by decide) rfl ?_
  refine g_goto (tgt := 90) hX (dc_X12_relay 77 rfl) (by decide) ?_
  exact g_sub [1, 2, 3, 4, 5, 6, 7, 8, 0] rfl (hk90 (y2) (y3) (y4) (y5) (y6) (y7) (y8) ((y9 + (1 : Int32))) σ )
def b_X12_relay_125  (k58 : Int32 → Int32 → Int32 → Int32 → Int32 → MS → Option (Int32 × MS)) (k90 : Int32 → Int32 → Int32 → Int32 → Int32 → Int32 → Int32 → Int32 → MS → Option (Int32 × MS))  (y2 : Int32) (y3 : Int32) (y4 : Int32) (y5 : Int32) (y6 : Int32) (y7 : Int32) (y8 : Int32) (y9 : Int32) (s0 : Int32) (s1 : Int32) (σ : MS) : Option (Int32 × MS) := (if y8 ≤ (s1 + s0) then (b_X12_relay_143 k58 k90 (y2) (y3) (y4) (y5) (y6) (y7) (y8) (y9) σ) else (b_X12_relay_143 k58 k90 (y2) (y3) (y4) (y5) (y6) (y9) ((s1 + s0)) (y9) σ))
set_option maxHeartbeats 4000000 in
set_option maxRecDepth 20000 in
theorem c_X12_relay_125 {X : CX} {Ω : OM} (hX : CF X Ω RX12 cX12_relay 11 (some .int) rm_X12_relay) (hO : OKO Ω) (hΩ : oSH Ω = SHM)   (k58 : Int32 → Int32 → Int32 → Int32 → Int32 → MS → Option (Int32 × MS)) (hk58 : ∀ (y2 : Int32) (y3 : Int32) (y4 : Int32) (y5 : Int32) (y6 : Int32) (σ : MS) , GE X Ω 11 0 0 (emWI) 0 0 58 [(0, .ref 0), (2, .int y2), (3, .int y3), (4, .int y4), (5, .int y5), (6, .int y6)] [] σ (k58 y2 y3 y4 y5 y6 σ)) (k90 : Int32 → Int32 → Int32 → Int32 → Int32 → Int32 → Int32 → Int32 → MS → Option (Int32 × MS)) (hk90 : ∀ (y2 : Int32) (y3 : Int32) (y4 : Int32) (y5 : Int32) (y6 : Int32) (y7 : Int32) (y8 : Int32) (y9 : Int32) (σ : MS) , GE X Ω 11 0 0 (emWI) 0 0 90 [(0, .ref 0), (2, .int y2), (3, .int y3), (4, .int y4), (5, .int y5), (6, .int y6), (7, .int y7), (8, .int y8), (9, .int y9)] [] σ (k90 y2 y3 y4 y5 y6 y7 y8 y9 σ))  (y2 : Int32) (y3 : Int32) (y4 : Int32) (y5 : Int32) (y6 : Int32) (y7 : Int32) (y8 : Int32) (y9 : Int32) (s0 : Int32) (s1 : Int32) (σ : MS)  : GE X Ω 11 0 0 (emWI) 0 0 125 [(0, .ref 0), (2, .int y2), (3, .int y3), (4, .int y4), (5, .int y5), (6, .int y6), (7, .int y7), (8, .int y8), (9, .int y9)] [.int s0, .int s1] σ (b_X12_relay_125  k58 k90 y2 y3 y4 y5 y6 y7 y8 y9 s0 s1 σ) := by
  unfold b_X12_relay_125
  refine g_iadd hX (dc_X12_relay 67 rfl) ?_
  refine g_istore (L' := [(10, .int (s1 + s0)), (0, .ref 0), (2, .int y2), (3, .int y3), (4, .int y4), (5, .int y5), (6, .int y6), (7, .int y7), (8, .int y8), (9, .int y9)]) hX (dc_X12_relay 68 rfl) (by decide) rfl ?_
  refine g_iload hX (dc_X12_relay 69 rfl) 0 rfl ?_
  refine g_iload hX (dc_X12_relay 70 rfl) 8 rfl ?_
  refine g_icmp_ge (tgt := 143) hX (dc_X12_relay 71 rfl) (by decide) (fun h23 => ?_) (fun h23 => ?_)
  · exact g_sub [1, 2, 3, 4, 5, 6, 7, 8, 9] rfl (c_X12_relay_143 hX hO hΩ _ hk58 _ hk90 (y2) (y3) (y4) (y5) (y6) (y7) (y8) (y9) σ)
  · refine g_iload hX (dc_X12_relay 72 rfl) 9 rfl ?_
    refine g_istore (L' := [(7, .int y9), (10, .int (s1 + s0)), (0, .ref 0), (2, .int y2), (3, .int y3), (4, .int y4), (5, .int y5), (6, .int y6), (8, .int y8), (9, .int y9)]) hX (dc_X12_relay 73 rfl) (by decide) rfl ?_
    refine g_iload hX (dc_X12_relay 74 rfl) 1 rfl ?_
    refine g_istore (L' := [(8, .int (s1 + s0)), (7, .int y9), (10, .int (s1 + s0)), (0, .ref 0), (2, .int y2), (3, .int y3), (4, .int y4), (5, .int y5), (6, .int y6), (9, .int y9)]) hX (dc_X12_relay 75 rfl) (by decide) rfl ?_
    exact g_sub [3, 4, 5, 6, 7, 8, 1, 0, 9] rfl (c_X12_relay_143 hX hO hΩ _ hk58 _ hk90 (y2) (y3) (y4) (y5) (y6) (y9) ((s1 + s0)) (y9) σ)
def b_X12_relay_90  (k58 : Int32 → Int32 → Int32 → Int32 → Int32 → MS → Option (Int32 × MS)) : Nat → Int32 → Int32 → Int32 → Int32 → Int32 → Int32 → Int32 → Int32 → MS → Option (Int32 × MS)
  | 0, _, _, _, _, _, _, _, _, _ => none
  | n + 1, y2, y3, y4, y5, y6, y7, y8, y9, σ => (if (sI σ 1 3) ≤ y9 then (if y6 = 0 then (b_X12_relay_161 k58 (y2) (y3) (y6) (y7) (y8) σ) else (b_X12_relay_161 k58 (y2) (y3) (y6) (y7) (y5) σ)) else chk (inb (((4 : Int32) * y6) + y9) 196) ((if y9 = y4 then (b_X12_relay_125 k58 (b_X12_relay_90  k58 n) (y2) (y3) (y4) (y5) (y6) (y7) (y8) (y9) ((0 : Int32)) ((sI σ 40 (ix (((4 : Int32) * y6) + y9)))) σ) else (b_X12_relay_125 k58 (b_X12_relay_90  k58 n) (y2) (y3) (y4) (y5) (y6) (y7) (y8) (y9) ((1 : Int32)) ((sI σ 40 (ix (((4 : Int32) * y6) + y9)))) σ))))
set_option maxHeartbeats 4000000 in
set_option maxRecDepth 20000 in
theorem c_X12_relay_90 {X : CX} {Ω : OM} (hX : CF X Ω RX12 cX12_relay 11 (some .int) rm_X12_relay) (hO : OKO Ω) (hΩ : oSH Ω = SHM)   (k58 : Int32 → Int32 → Int32 → Int32 → Int32 → MS → Option (Int32 × MS)) (hk58 : ∀ (y2 : Int32) (y3 : Int32) (y4 : Int32) (y5 : Int32) (y6 : Int32) (σ : MS) , GE X Ω 11 0 0 (emWI) 0 0 58 [(0, .ref 0), (2, .int y2), (3, .int y3), (4, .int y4), (5, .int y5), (6, .int y6)] [] σ (k58 y2 y3 y4 y5 y6 σ)) : ∀ (n : Nat) (y2 : Int32) (y3 : Int32) (y4 : Int32) (y5 : Int32) (y6 : Int32) (y7 : Int32) (y8 : Int32) (y9 : Int32) (σ : MS) , GE X Ω 11 0 0 (emWI) 0 0 90 [(0, .ref 0), (2, .int y2), (3, .int y3), (4, .int y4), (5, .int y5), (6, .int y6), (7, .int y7), (8, .int y8), (9, .int y9)] [] σ (b_X12_relay_90  k58 n y2 y3 y4 y5 y6 y7 y8 y9 σ)
  | 0, _, _, _, _, _, _, _, _, _ => g_none
  | n + 1, y2, y3, y4, y5, y6, y7, y8, y9, σ => by
    have hk90 := c_X12_relay_90 hX hO hΩ  k58 hk58 n
    unfold b_X12_relay_90
    refine g_iload hX (dc_X12_relay 47 rfl) 8 rfl ?_
    refine g_aload_n hX (dc_X12_relay 48 rfl) rfl 0 rfl ?_
    refine g_getF (q := 1) hX (dc_X12_relay 49 rfl) fl_X12_9 (by decide) rfl (stS hΩ 0 rfl) rfl ?_
    refine g_iconst (w := (3 : Int32)) hX (dc_X12_relay 50 rfl) (by decide) ?_
    refine g_iald (j := 3) hX (dc_X12_relay 51 rfl) (stS hΩ 1 rfl) (by decide) (by decide) ?_
    refine g_icmp_ge (tgt := 149) hX (dc_X12_relay 52 rfl) (by decide) (fun h24 => ?_) (fun h24 => ?_)
    · refine g_iload hX (dc_X12_relay 78 rfl) 5 rfl ?_
      refine g_if_ne (tgt := 159) hX (dc_X12_relay 79 rfl) (by decide) (fun h25 => ?_) (fun h25 => ?_)
      · refine g_iload hX (dc_X12_relay 80 rfl) 7 rfl ?_
        refine g_goto (tgt := 161) hX (dc_X12_relay 81 rfl) (by decide) ?_
        exact g_sub [0, 1, 2, 5, 6] rfl (c_X12_relay_161 hX hO hΩ _ hk58 (y2) (y3) (y6) (y7) (y8) σ)
      · refine g_iload hX (dc_X12_relay 82 rfl) 4 rfl ?_
        exact g_sub [0, 1, 2, 5, 6] rfl (c_X12_relay_161 hX hO hΩ _ hk58 (y2) (y3) (y6) (y7) (y5) σ)
    · refine g_aload_n hX (dc_X12_relay 53 rfl) rfl 0 rfl ?_
      refine g_getF (q := 40) hX (dc_X12_relay 54 rfl) fl_X12_133 (by decide) rfl (stS hΩ 0 rfl) rfl ?_
      refine g_iconst (w := (4 : Int32)) hX (dc_X12_relay 55 rfl) (by decide) ?_
      refine g_iload hX (dc_X12_relay 56 rfl) 5 rfl ?_
      refine g_imul hX (dc_X12_relay 57 rfl) ?_
      refine g_iload hX (dc_X12_relay 58 rfl) 8 rfl ?_
      refine g_iadd hX (dc_X12_relay 59 rfl) ?_
      refine g_chk (fun hc26 => ?_)
      refine g_iald hX (dc_X12_relay 60 rfl) (stS hΩ 40 rfl) hc26 rfl ?_
      refine g_iload hX (dc_X12_relay 61 rfl) 8 rfl ?_
      refine g_iload hX (dc_X12_relay 62 rfl) 3 rfl ?_
      refine g_icmp_ne (tgt := 124) hX (dc_X12_relay 63 rfl) (by decide) (fun h27 => ?_) (fun h27 => ?_)
      · refine g_iconst (w := (0 : Int32)) hX (dc_X12_relay 64 rfl) (by decide) ?_
        refine g_goto (tgt := 125) hX (dc_X12_relay 65 rfl) (by decide) ?_
        exact g_sub [0, 1, 2, 3, 4, 5, 6, 7, 8] rfl (c_X12_relay_125 hX hO hΩ _ hk58 _ hk90 (y2) (y3) (y4) (y5) (y6) (y7) (y8) (y9) ((0 : Int32)) ((sI σ 40 (ix (((4 : Int32) * y6) + y9)))) σ)
      · refine g_iconst (w := (1 : Int32)) hX (dc_X12_relay 66 rfl) (by decide) ?_
        exact g_sub [0, 1, 2, 3, 4, 5, 6, 7, 8] rfl (c_X12_relay_125 hX hO hΩ _ hk58 _ hk90 (y2) (y3) (y4) (y5) (y6) (y7) (y8) (y9) ((1 : Int32)) ((sI σ 40 (ix (((4 : Int32) * y6) + y9)))) σ)
def b_X12_relay_76  (k58 : Int32 → Int32 → Int32 → Int32 → Int32 → MS → Option (Int32 × MS))  (y2 : Int32) (y3 : Int32) (y4 : Int32) (y5 : Int32) (y6 : Int32) (s0 : Int32) (s1 : Int32) (σ : MS) : Option (Int32 × MS) := (if s0 < s1 then (b_X12_relay_182 (y2) (y3) (y4) (y5) σ) else (b_X12_relay_90 k58 FU (y2) (y3) (y4) (y5) (y6) ((-1 : Int32)) ((1000 : Int32)) ((0 : Int32)) σ))
set_option maxHeartbeats 4000000 in
set_option maxRecDepth 20000 in
theorem c_X12_relay_76 {X : CX} {Ω : OM} (hX : CF X Ω RX12 cX12_relay 11 (some .int) rm_X12_relay) (hO : OKO Ω) (hΩ : oSH Ω = SHM)   (k58 : Int32 → Int32 → Int32 → Int32 → Int32 → MS → Option (Int32 × MS)) (hk58 : ∀ (y2 : Int32) (y3 : Int32) (y4 : Int32) (y5 : Int32) (y6 : Int32) (σ : MS) , GE X Ω 11 0 0 (emWI) 0 0 58 [(0, .ref 0), (2, .int y2), (3, .int y3), (4, .int y4), (5, .int y5), (6, .int y6)] [] σ (k58 y2 y3 y4 y5 y6 σ))  (y2 : Int32) (y3 : Int32) (y4 : Int32) (y5 : Int32) (y6 : Int32) (s0 : Int32) (s1 : Int32) (σ : MS)  : GE X Ω 11 0 0 (emWI) 0 0 76 [(0, .ref 0), (2, .int y2), (3, .int y3), (4, .int y4), (5, .int y5), (6, .int y6)] [.int s0, .int s1] σ (b_X12_relay_76  k58 y2 y3 y4 y5 y6 s0 s1 σ) := by
  unfold b_X12_relay_76
  refine g_icmp_gt (tgt := 182) hX (dc_X12_relay 40 rfl) (by decide) (fun h28 => ?_) (fun h28 => ?_)
  · exact g_sub [1, 2, 3, 4] rfl (c_X12_relay_182 hX hO hΩ (y2) (y3) (y4) (y5) σ)
  · refine g_iconst (w := (-1 : Int32)) hX (dc_X12_relay 41 rfl) (by decide) ?_
    refine g_istore (L' := [(7, .int (-1 : Int32)), (0, .ref 0), (2, .int y2), (3, .int y3), (4, .int y4), (5, .int y5), (6, .int y6)]) hX (dc_X12_relay 42 rfl) (by decide) rfl ?_
    refine g_sipush (w := (1000 : Int32)) hX (dc_X12_relay 43 rfl) (by decide) ?_
    refine g_istore (L' := [(8, .int (1000 : Int32)), (7, .int (-1 : Int32)), (0, .ref 0), (2, .int y2), (3, .int y3), (4, .int y4), (5, .int y5), (6, .int y6)]) hX (dc_X12_relay 44 rfl) (by decide) rfl ?_
    refine g_iconst (w := (0 : Int32)) hX (dc_X12_relay 45 rfl) (by decide) ?_
    refine g_istore (L' := [(9, .int (0 : Int32)), (8, .int (1000 : Int32)), (7, .int (-1 : Int32)), (0, .ref 0), (2, .int y2), (3, .int y3), (4, .int y4), (5, .int y5), (6, .int y6)]) hX (dc_X12_relay 46 rfl) (by decide) rfl ?_
    exact g_sub [3, 4, 5, 6, 7, 8, 2, 1, 0] rfl (c_X12_relay_90 hX hO hΩ _ hk58 FU (y2) (y3) (y4) (y5) (y6) ((-1 : Int32)) ((1000 : Int32)) ((0 : Int32)) σ)
def b_X12_relay_58   : Nat → Int32 → Int32 → Int32 → Int32 → Int32 → MS → Option (Int32 × MS)
  | 0, _, _, _, _, _, _ => none
  | n + 1, y2, y3, y4, y5, y6, σ => (if y2 ≤ y6 then (b_X12_relay_182 (y2) (y3) (y4) (y5) σ) else (if y3 = (-1 : Int32) then (b_X12_relay_76 (b_X12_relay_58  n) (y2) (y3) (y4) (y5) (y6) ((0 : Int32)) (y6) σ) else (b_X12_relay_76 (b_X12_relay_58  n) (y2) (y3) (y4) (y5) (y6) (y3) (y6) σ)))
set_option maxHeartbeats 4000000 in
set_option maxRecDepth 20000 in
theorem c_X12_relay_58 {X : CX} {Ω : OM} (hX : CF X Ω RX12 cX12_relay 11 (some .int) rm_X12_relay) (hO : OKO Ω) (hΩ : oSH Ω = SHM)    : ∀ (n : Nat) (y2 : Int32) (y3 : Int32) (y4 : Int32) (y5 : Int32) (y6 : Int32) (σ : MS) , GE X Ω 11 0 0 (emWI) 0 0 58 [(0, .ref 0), (2, .int y2), (3, .int y3), (4, .int y4), (5, .int y5), (6, .int y6)] [] σ (b_X12_relay_58  n y2 y3 y4 y5 y6 σ)
  | 0, _, _, _, _, _, _ => g_none
  | n + 1, y2, y3, y4, y5, y6, σ => by
    have hk58 := c_X12_relay_58 hX hO hΩ  n
    unfold b_X12_relay_58
    refine g_iload hX (dc_X12_relay 30 rfl) 5 rfl ?_
    refine g_iload_n hX (dc_X12_relay 31 rfl) rfl 1 rfl ?_
    refine g_icmp_ge (tgt := 182) hX (dc_X12_relay 32 rfl) (by decide) (fun h29 => ?_) (fun h29 => ?_)
    · exact g_sub [1, 2, 3, 4] rfl (c_X12_relay_182 hX hO hΩ (y2) (y3) (y4) (y5) σ)
    · refine g_iload hX (dc_X12_relay 33 rfl) 5 rfl ?_
      refine g_iload_n hX (dc_X12_relay 34 rfl) rfl 2 rfl ?_
      refine g_iconst (w := (-1 : Int32)) hX (dc_X12_relay 35 rfl) (by decide) ?_
      refine g_icmp_ne (tgt := 75) hX (dc_X12_relay 36 rfl) (by decide) (fun h30 => ?_) (fun h30 => ?_)
      · refine g_iconst (w := (0 : Int32)) hX (dc_X12_relay 37 rfl) (by decide) ?_
        refine g_goto (tgt := 76) hX (dc_X12_relay 38 rfl) (by decide) ?_
        exact g_sub [0, 1, 2, 3, 4, 5] rfl (c_X12_relay_76 hX hO hΩ _ hk58 (y2) (y3) (y4) (y5) (y6) ((0 : Int32)) (y6) σ)
      · refine g_iload_n hX (dc_X12_relay 39 rfl) rfl 2 rfl ?_
        exact g_sub [0, 1, 2, 3, 4, 5] rfl (c_X12_relay_76 hX hO hΩ _ hk58 (y2) (y3) (y4) (y5) (y6) (y3) (y6) σ)
def b_X12_relay_34     (σ : MS) : Option (Int32 × MS) := some ((-3 : Int32), σ)
set_option maxHeartbeats 4000000 in
set_option maxRecDepth 20000 in
theorem c_X12_relay_34 {X : CX} {Ω : OM} (hX : CF X Ω RX12 cX12_relay 11 (some .int) rm_X12_relay) (hO : OKO Ω) (hΩ : oSH Ω = SHM)      (σ : MS)  : GE X Ω 11 0 0 (emWI) 0 0 34 [] [] σ (b_X12_relay_34  σ) := by
  unfold b_X12_relay_34
  refine g_bipush (w := (-3 : Int32)) hX (dc_X12_relay 16 rfl) (by decide) ?_
  exact g_iret hX (dc_X12_relay 17 rfl) rfl rfl (Nat.le_refl _) (Nat.le_refl _)
def b_X12_relay_0   (x1 : Int32) (x2 : Int32) (x3 : Int32)  (σ : MS) : Option (Int32 × MS) := (f_X12_doesGo x1 σ).bind (fun r31 => (if r31 = 0 then (b_X12_relay_34 σ) else (f_X12_in (x2).toInt64 (1 : Int64) (48 : Int64)).bind (fun r33 => (if r33 = 0 then (b_X12_relay_34 σ) else (f_X12_in (x3).toInt64 (-1 : Int64) (47 : Int64)).bind (fun r35 => (if r35 = 0 then (b_X12_relay_34 σ) else (f_X12_laysHandings x2 σ).bind (fun r37 => chk (inb x1 6) ((b_X12_relay_58 FU (x2) (x3) ((sI r37 9 (ix x1))) ((1000 : Int32)) ((0 : Int32)) r37)))))))))
set_option maxHeartbeats 4000000 in
set_option maxRecDepth 20000 in
theorem c_X12_relay_0 {X : CX} {Ω : OM} (hX : CF X Ω RX12 cX12_relay 11 (some .int) rm_X12_relay) (hO : OKO Ω) (hΩ : oSH Ω = SHM)    (x1 : Int32) (x2 : Int32) (x3 : Int32)  (σ : MS)  : GE X Ω 11 0 0 (emWI) 0 0 0 [(0, .ref 0), (1, .int x1), (2, .int x2), (3, .int x3)] [] σ (b_X12_relay_0  x1 x2 x3 σ) := by
  unfold b_X12_relay_0
  refine g_aload_n hX (dc_X12_relay 0 rfl) rfl 0 rfl ?_
  refine g_iload_n hX (dc_X12_relay 1 rfl) rfl 1 rfl ?_
  refine gV_PI (As := [.int x1]) (st := []) hX (dc_X12_relay 2 rfl) ml_X12_454 (con_X12_doesGo hO hΩ x1 σ) (stS hΩ 0 rfl) rfl rfl ⟨by decide, by decide⟩ ⟨rfl, rfl⟩ ⟨Nat.zero_le _, Nat.zero_le _⟩ (Nat.le_of_ble_eq_true rfl) (fun r31 _ => ?_)
  refine g_if_eq (tgt := 34) hX (dc_X12_relay 3 rfl) (by decide) (fun h32 => ?_) (fun h32 => ?_)
  · exact g_sub [] rfl (c_X12_relay_34 hX hO hΩ σ)
  · refine g_iload_n hX (dc_X12_relay 4 rfl) rfl 2 rfl ?_
    refine g_i2l hX (dc_X12_relay 5 rfl) ?_
    refine g_lconst (w := (1 : Int64)) hX (dc_X12_relay 6 rfl) (by decide) ?_
    refine g_ldc2 hX (dc_X12_relay 7 rfl) wk_X12_206 ?_
    refine gS_PI (As := [.long (x2).toInt64, .long (1 : Int64), .long (48 : Int64)]) (st := []) hX (dc_X12_relay 8 rfl) ml_X12_161 (con_X12_in hO hΩ (x2).toInt64 (1 : Int64) (48 : Int64) σ) rfl rfl ⟨by decide, by decide⟩ ⟨rfl, rfl⟩ ⟨Nat.zero_le _, Nat.zero_le _⟩ (Nat.le_of_ble_eq_true rfl) (fun r33 _ => ?_)
    refine g_if_eq (tgt := 34) hX (dc_X12_relay 9 rfl) (by decide) (fun h34 => ?_) (fun h34 => ?_)
    · exact g_sub [] rfl (c_X12_relay_34 hX hO hΩ σ)
    · refine g_iload_n hX (dc_X12_relay 10 rfl) rfl 3 rfl ?_
      refine g_i2l hX (dc_X12_relay 11 rfl) ?_
      refine g_ldc2 hX (dc_X12_relay 12 rfl) wk_X12_367 ?_
      refine g_ldc2 hX (dc_X12_relay 13 rfl) wk_X12_471 ?_
      refine gS_PI (As := [.long (x3).toInt64, .long (-1 : Int64), .long (47 : Int64)]) (st := []) hX (dc_X12_relay 14 rfl) ml_X12_161 (con_X12_in hO hΩ (x3).toInt64 (-1 : Int64) (47 : Int64) σ) rfl rfl ⟨by decide, by decide⟩ ⟨rfl, rfl⟩ ⟨Nat.zero_le _, Nat.zero_le _⟩ (Nat.le_of_ble_eq_true rfl) (fun r35 _ => ?_)
      refine g_if_ne (tgt := 37) hX (dc_X12_relay 15 rfl) (by decide) (fun h36 => ?_) (fun h36 => ?_)
      · exact g_sub [] rfl (c_X12_relay_34 hX hO hΩ σ)
      · refine g_aload_n hX (dc_X12_relay 18 rfl) rfl 0 rfl ?_
        refine g_iload_n hX (dc_X12_relay 19 rfl) rfl 2 rfl ?_
        refine gV_WV (As := [.int x2]) (st := []) hX (dc_X12_relay 20 rfl) ml_X12_473 (con_X12_laysHandings hO hΩ x2 σ) (stS hΩ 0 rfl) rfl rfl ⟨by decide, by decide⟩ ⟨rfl, rfl⟩ ⟨Nat.zero_le _, Nat.zero_le _⟩ (Nat.le_of_ble_eq_true rfl) (fun r37 _ => ?_)
        refine g_aload_n hX (dc_X12_relay 21 rfl) rfl 0 rfl ?_
        refine g_getF (q := 9) hX (dc_X12_relay 22 rfl) fl_X12_34 (by decide) rfl (stS hΩ 0 rfl) rfl ?_
        refine g_iload_n hX (dc_X12_relay 23 rfl) rfl 1 rfl ?_
        refine g_chk (fun hc38 => ?_)
        refine g_iald hX (dc_X12_relay 24 rfl) (stS hΩ 9 rfl) hc38 rfl ?_
        refine g_istore (L' := [(4, .int (sI r37 9 (ix x1))), (0, .ref 0), (1, .int x1), (2, .int x2), (3, .int x3)]) hX (dc_X12_relay 25 rfl) (by decide) rfl ?_
        refine g_sipush (w := (1000 : Int32)) hX (dc_X12_relay 26 rfl) (by decide) ?_
        refine g_istore (L' := [(5, .int (1000 : Int32)), (4, .int (sI r37 9 (ix x1))), (0, .ref 0), (1, .int x1), (2, .int x2), (3, .int x3)]) hX (dc_X12_relay 27 rfl) (by decide) rfl ?_
        refine g_iconst (w := (0 : Int32)) hX (dc_X12_relay 28 rfl) (by decide) ?_
        refine g_istore (L' := [(6, .int (0 : Int32)), (5, .int (1000 : Int32)), (4, .int (sI r37 9 (ix x1))), (0, .ref 0), (1, .int x1), (2, .int x2), (3, .int x3)]) hX (dc_X12_relay 29 rfl) (by decide) rfl ?_
        exact g_sub [3, 5, 6, 2, 1, 0] rfl (c_X12_relay_58 hX hO hΩ FU (x2) (x3) ((sI r37 9 (ix x1))) ((1000 : Int32)) ((0 : Int32)) r37)
def f_X12_relay (x1 : Int32) (x2 : Int32) (x3 : Int32) (σ : MS) : Option (Int32 × MS) := b_X12_relay_0  x1 x2 x3 σ
theorem con_X12_relay {Ω : OM} (hO : OKO Ω) (hΩ : oSH Ω = SHM) (x1 : Int32) (x2 : Int32) (x3 : Int32) (σ : MS)  : Con Ω yX12_relay cX12_relay 11 (some .int) rm_X12_relay (emWI) [.ref 0, .int x1, .int x2, .int x3] σ (f_X12_relay x1 x2 x3 σ) :=
  con_of hO (by decide +kernel) (Nat.le_of_ble_eq_true rfl) rfl (fun X hX _ => c_X12_relay_0 hX hO hΩ   x1 x2 x3 σ )
def it_X12_most : List (Nat × Instr × Nat × Nat) := [(0, .aload_n 0, 1, 1), (1, .getfield 341, 3, 4), (4, .ifCond .eq 25, 3, 7), (7, .iload_n 1, 1, 8), (8, .i2l, 1, 9), (9, .lconst 1, 1, 10), (10, .ldc2_w 206, 3, 13), (13, .invokestatic 161, 3, 16), (16, .ifCond .eq 13, 3, 19), (19, .iload_n 2, 1, 20), (20, .i2l, 1, 21), (21, .lconst 0, 1, 22), (22, .lconst 1, 1, 23), (23, .invokestatic 161, 3, 26), (26, .ifCond .ne 5, 3, 29), (29, .iconst (-1), 1, 30), (30, .ireturn, 1, 31), (31, .iconst (-1), 1, 32), (32, .istore_n 3, 1, 33), (33, .iconst (-1), 1, 34), (34, .istore 4, 2, 36), (36, .iconst 0, 1, 37), (37, .istore 5, 2, 39), (39, .iload 5, 2, 41), (41, .iload_n 1, 1, 42), (42, .if_icmp .ge 91, 3, 45), (45, .iconst 0, 1, 46), (46, .istore 6, 2, 48), (48, .iconst 0, 1, 49), (49, .istore 7, 2, 51), (51, .iload 7, 2, 53), (53, .aload_n 0, 1, 54), (54, .getfield 9, 3, 57), (57, .iconst 3, 1, 58), (58, .iaload, 1, 59), (59, .if_icmp .ge 43, 3, 62), (62, .iload 6, 2, 64), (64, .aload_n 0, 1, 65), (65, .iload 7, 2, 67), (67, .aload_n 0, 1, 68), (68, .getfield 9, 3, 71), (71, .iconst 5, 1, 72), (72, .iaload, 1, 73), (73, .iload 5, 2, 75), (75, .iadd, 1, 76), (76, .invokevirtual 381, 3, 79), (79, .ifCond .eq 7, 3, 82), (82, .iconst 0, 1, 83), (83, .goto 10, 3, 86), (86, .aload_n 0, 1, 87), (87, .getfield 28, 3, 90), (90, .iload 7, 2, 92), (92, .iaload, 1, 93), (93, .iadd, 1, 94), (94, .istore 6, 2, 96), (96, .iinc 7 1, 3, 99), (99, .goto (-48), 3, 102), (102, .iload_n 3, 1, 103), (103, .iconst (-1), 1, 104), (104, .if_icmp .eq 9, 3, 107), (107, .iload 6, 2, 109), (109, .iload_n 3, 1, 110), (110, .if_icmp .ge 17, 3, 113), (113, .iload 6, 2, 115), (115, .istore_n 3, 1, 116), (116, .aload_n 0, 1, 117), (117, .getfield 9, 3, 120), (120, .iconst 5, 1, 121), (121, .iaload, 1, 122), (122, .iload 5, 2, 124), (124, .iadd, 1, 125), (125, .istore 4, 2, 127), (127, .iinc 5 1, 3, 130), (130, .goto (-91), 3, 133), (133, .iload_n 2, 1, 134), (134, .ifCond .ne 7, 3, 137), (137, .iload_n 3, 1, 138), (138, .goto 5, 3, 141), (141, .iload 4, 2, 143), (143, .ireturn, 1, 144)]
theorem id_X12_most : ∀ q ∈ it_X12_most, decode cX12_most q.1 = .ok (q.2.1, q.2.2.1) ∧ q.1 + q.2.2.1 = q.2.2.2 := by decide +kernel
theorem dc_X12_most {pc : Nat} {i : Instr} {n pc' : Nat} (j : Nat) (h : it_X12_most[j]? = some (pc, i, n, pc')) : Dc cX12_most pc i n pc' := dc_of id_X12_most j h
abbrev rm_X12_most : Room := { frames := 1, cells := 0, slots := 0, locals := 25 }
def b_X12_most_143    (s0 : Int32) (σ : MS) : Option (Int32) := some s0
set_option maxHeartbeats 4000000 in
set_option maxRecDepth 20000 in
theorem c_X12_most_143 {X : CX} {Ω : OM} (hX : CF X Ω RX12 cX12_most 8 (some .int) rm_X12_most) (hO : OKO Ω) (hΩ : oSH Ω = SHM)   (σ : MS)   (s0 : Int32)   : GE X Ω 8 0 0 (emPI σ) 0 0 143 [] [.int s0] σ (b_X12_most_143  s0 σ) := by
  unfold b_X12_most_143
  exact g_iret hX (dc_X12_most 79 rfl) rfl rfl (Nat.le_refl _) (Nat.le_refl _)
def b_X12_most_127  (k39 : Int32 → Int32 → Int32 → Int32 → Int32 → MS → Option (Int32))  (y1 : Int32) (y2 : Int32) (y3 : Int32) (y4 : Int32) (y5 : Int32) (σ : MS) : Option (Int32) := (k39 (y1) (y2) (y3) (y4) ((y5 + (1 : Int32))) σ)
set_option maxHeartbeats 4000000 in
set_option maxRecDepth 20000 in
theorem c_X12_most_127 {X : CX} {Ω : OM} (hX : CF X Ω RX12 cX12_most 8 (some .int) rm_X12_most) (hO : OKO Ω) (hΩ : oSH Ω = SHM)   (σ : MS) (k39 : Int32 → Int32 → Int32 → Int32 → Int32 → MS → Option (Int32)) (hk39 : ∀ (y1 : Int32) (y2 : Int32) (y3 : Int32) (y4 : Int32) (y5 : Int32), GE X Ω 8 0 0 (emPI σ) 0 0 39 [(0, .ref 0), (1, .int y1), (2, .int y2), (3, .int y3), (4, .int y4), (5, .int y5)] [] σ (k39 y1 y2 y3 y4 y5 σ))  (y1 : Int32) (y2 : Int32) (y3 : Int32) (y4 : Int32) (y5 : Int32)   : GE X Ω 8 0 0 (emPI σ) 0 0 127 [(0, .ref 0), (1, .int y1), (2, .int y2), (3, .int y3), (4, .int y4), (5, .int y5)] [] σ (b_X12_most_127  k39 y1 y2 y3 y4 y5 σ) := by
  unfold b_X12_most_127
  refine g_iinc (w := (y5 + (1 : Int32))) (L' := [(5, .int (y5 + (1 : Int32))), (0, .ref 0), (1, .int y1), (2, .int y2), (3, .int y3), (4, .int y4)]) hX (dc_X12_most 72 rfl) 5 rfl rfl (by decide) rfl ?_
  refine g_goto (tgt := 39) hX (dc_X12_most 73 rfl) (by decide) ?_
  exact g_sub [1, 2, 3, 4, 5, 0] rfl (hk39 (y1) (y2) (y3) (y4) ((y5 + (1 : Int32))) )
def b_X12_most_113  (k39 : Int32 → Int32 → Int32 → Int32 → Int32 → MS → Option (Int32))  (y1 : Int32) (y2 : Int32) (y5 : Int32) (y6 : Int32) (σ : MS) : Option (Int32) := (b_X12_most_127 k39 (y1) (y2) (y6) (((sI σ 1 5) + y5)) (y5) σ)
set_option maxHeartbeats 4000000 in
set_option maxRecDepth 20000 in
theorem c_X12_most_113 {X : CX} {Ω : OM} (hX : CF X Ω RX12 cX12_most 8 (some .int) rm_X12_most) (hO : OKO Ω) (hΩ : oSH Ω = SHM)   (σ : MS) (k39 : Int32 → Int32 → Int32 → Int32 → Int32 → MS → Option (Int32)) (hk39 : ∀ (y1 : Int32) (y2 : Int32) (y3 : Int32) (y4 : Int32) (y5 : Int32), GE X Ω 8 0 0 (emPI σ) 0 0 39 [(0, .ref 0), (1, .int y1), (2, .int y2), (3, .int y3), (4, .int y4), (5, .int y5)] [] σ (k39 y1 y2 y3 y4 y5 σ))  (y1 : Int32) (y2 : Int32) (y5 : Int32) (y6 : Int32)   : GE X Ω 8 0 0 (emPI σ) 0 0 113 [(0, .ref 0), (1, .int y1), (2, .int y2), (5, .int y5), (6, .int y6)] [] σ (b_X12_most_113  k39 y1 y2 y5 y6 σ) := by
  unfold b_X12_most_113
  refine g_iload hX (dc_X12_most 63 rfl) 4 rfl ?_
  refine g_istore_n (L' := [(3, .int y6), (0, .ref 0), (1, .int y1), (2, .int y2), (5, .int y5), (6, .int y6)]) hX (dc_X12_most 64 rfl) rfl (by decide) rfl ?_
  refine g_aload_n hX (dc_X12_most 65 rfl) rfl 1 rfl ?_
  refine g_getF (q := 1) hX (dc_X12_most 66 rfl) fl_X12_9 (by decide) rfl (stS hΩ 0 rfl) rfl ?_
  refine g_iconst (w := (5 : Int32)) hX (dc_X12_most 67 rfl) (by decide) ?_
  refine g_iald (j := 5) hX (dc_X12_most 68 rfl) (stS hΩ 1 rfl) (by decide) (by decide) ?_
  refine g_iload hX (dc_X12_most 69 rfl) 4 rfl ?_
  refine g_iadd hX (dc_X12_most 70 rfl) ?_
  refine g_istore (L' := [(4, .int ((sI σ 1 5) + y5)), (3, .int y6), (0, .ref 0), (1, .int y1), (2, .int y2), (5, .int y5), (6, .int y6)]) hX (dc_X12_most 71 rfl) (by decide) rfl ?_
  exact g_sub [2, 3, 4, 1, 0, 5] rfl (c_X12_most_127 hX hO hΩ σ _ hk39 (y1) (y2) (y6) (((sI σ 1 5) + y5)) (y5))
def b_X12_most_93  (k39 : Int32 → Int32 → Int32 → Int32 → Int32 → MS → Option (Int32)) (k51 : Int32 → Int32 → Int32 → Int32 → Int32 → Int32 → Int32 → MS → Option (Int32))  (y1 : Int32) (y2 : Int32) (y3 : Int32) (y4 : Int32) (y5 : Int32) (y7 : Int32) (s0 : Int32) (s1 : Int32) (σ : MS) : Option (Int32) := (k51 (y1) (y2) (y3) (y4) (y5) ((s1 + s0)) ((y7 + (1 : Int32))) σ)
set_option maxHeartbeats 4000000 in
set_option maxRecDepth 20000 in
theorem c_X12_most_93 {X : CX} {Ω : OM} (hX : CF X Ω RX12 cX12_most 8 (some .int) rm_X12_most) (hO : OKO Ω) (hΩ : oSH Ω = SHM)   (σ : MS) (k39 : Int32 → Int32 → Int32 → Int32 → Int32 → MS → Option (Int32)) (hk39 : ∀ (y1 : Int32) (y2 : Int32) (y3 : Int32) (y4 : Int32) (y5 : Int32), GE X Ω 8 0 0 (emPI σ) 0 0 39 [(0, .ref 0), (1, .int y1), (2, .int y2), (3, .int y3), (4, .int y4), (5, .int y5)] [] σ (k39 y1 y2 y3 y4 y5 σ)) (k51 : Int32 → Int32 → Int32 → Int32 → Int32 → Int32 → Int32 → MS → Option (Int32)) (hk51 : ∀ (y1 : Int32) (y2 : Int32) (y3 : Int32) (y4 : Int32) (y5 : Int32) (y6 : Int32) (y7 : Int32), GE X Ω 8 0 0 (emPI σ) 0 0 51 [(0, .ref 0), (1, .int y1), (2, .int y2), (3, .int y3), (4, .int y4), (5, .int y5), (6, .int y6), (7, .int y7)] [] σ (k51 y1 y2 y3 y4 y5 y6 y7 σ))  (y1 : Int32) (y2 : Int32) (y3 : Int32) (y4 : Int32) (y5 : Int32) (y7 : Int32) (s0 : Int32) (s1 : Int32)   : GE X Ω 8 0 0 (emPI σ) 0 0 93 [(0, .ref 0), (1, .int y1), (2, .int y2), (3, .int y3), (4, .int y4), (5, .int y5), (7, .int y7)] [.int s0, .int s1] σ (b_X12_most_93  k39 k51 y1 y2 y3 y4 y5 y7 s0 s1 σ) := by
  unfold b_X12_most_93
  refine g_iadd hX (dc_X12_most 53 rfl) ?_
  refine g_istore (L' := [(6, .int (s1 + s0)), (0, .ref 0), (1, .int y1), (2, .int y2), (3, .int y3), (4, .int y4), (5, .int y5), (7, .int y7)]) hX (dc_X12_most 54 rfl) (by decide) rfl ?_
  refine g_iinc (w := (y7 + (1 : Int32))) (L' := [(7, .int (y7 + (1 : Int32))), (6, .int (s1 + s0)), (0, .ref 0), (1, .int y1), (2, .int y2), (3, .int y3), (4, .int y4), (5, .int y5)]) hX (dc_X12_most 55 rfl) 7 rfl rfl (by decide) rfl ?_
  refine g_goto (tgt := 51) hX (dc_X12_most 56 rfl) (by decide) ?_
  exact g_sub [2, 3, 4, 5, 6, 7, 1, 0] rfl (hk51 (y1) (y2) (y3) (y4) (y5) ((s1 + s0)) ((y7 + (1 : Int32))) )
def b_X12_most_51  (k39 : Int32 → Int32 → Int32 → Int32 → Int32 → MS → Option (Int32)) : Nat → Int32 → Int32 → Int32 → Int32 → Int32 → Int32 → Int32 → MS → Option (Int32)
  | 0, _, _, _, _, _, _, _, _ => none
  | n + 1, y1, y2, y3, y4, y5, y6, y7, σ => (if (sI σ 1 3) ≤ y7 then (if y3 = (-1 : Int32) then (b_X12_most_113 k39 (y1) (y2) (y5) (y6) σ) else (if y3 ≤ y6 then (b_X12_most_127 k39 (y1) (y2) (y3) (y4) (y5) σ) else (b_X12_most_113 k39 (y1) (y2) (y5) (y6) σ))) else (f_X12_isAsleep y7 ((sI σ 1 5) + y5) σ).bind (fun r17 => (if r17 = 0 then chk (inb y7 4) ((b_X12_most_93 k39 (b_X12_most_51  k39 n) (y1) (y2) (y3) (y4) (y5) (y7) ((sI σ 7 (ix y7))) (y6) σ)) else (b_X12_most_93 k39 (b_X12_most_51  k39 n) (y1) (y2) (y3) (y4) (y5) (y7) ((0 : Int32)) (y6) σ))))
set_option maxHeartbeats 4000000 in
set_option maxRecDepth 20000 in
theorem c_X12_most_51 {X : CX} {Ω : OM} (hX : CF X Ω RX12 cX12_most 8 (some .int) rm_X12_most) (hO : OKO Ω) (hΩ : oSH Ω = SHM)   (σ : MS) (k39 : Int32 → Int32 → Int32 → Int32 → Int32 → MS → Option (Int32)) (hk39 : ∀ (y1 : Int32) (y2 : Int32) (y3 : Int32) (y4 : Int32) (y5 : Int32), GE X Ω 8 0 0 (emPI σ) 0 0 39 [(0, .ref 0), (1, .int y1), (2, .int y2), (3, .int y3), (4, .int y4), (5, .int y5)] [] σ (k39 y1 y2 y3 y4 y5 σ)) : ∀ (n : Nat) (y1 : Int32) (y2 : Int32) (y3 : Int32) (y4 : Int32) (y5 : Int32) (y6 : Int32) (y7 : Int32)  , GE X Ω 8 0 0 (emPI σ) 0 0 51 [(0, .ref 0), (1, .int y1), (2, .int y2), (3, .int y3), (4, .int y4), (5, .int y5), (6, .int y6), (7, .int y7)] [] σ (b_X12_most_51  k39 n y1 y2 y3 y4 y5 y6 y7 σ)
  | 0, _, _, _, _, _, _, _ => g_none
  | n + 1, y1, y2, y3, y4, y5, y6, y7 => by
    have hk51 := c_X12_most_51 hX hO hΩ  σ k39 hk39 n
    unfold b_X12_most_51
    refine g_iload hX (dc_X12_most 30 rfl) 7 rfl ?_
    refine g_aload_n hX (dc_X12_most 31 rfl) rfl 0 rfl ?_
    refine g_getF (q := 1) hX (dc_X12_most 32 rfl) fl_X12_9 (by decide) rfl (stS hΩ 0 rfl) rfl ?_
    refine g_iconst (w := (3 : Int32)) hX (dc_X12_most 33 rfl) (by decide) ?_
    refine g_iald (j := 3) hX (dc_X12_most 34 rfl) (stS hΩ 1 rfl) (by decide) (by decide) ?_
    refine g_icmp_ge (tgt := 102) hX (dc_X12_most 35 rfl) (by decide) (fun h14 => ?_) (fun h14 => ?_)
    · refine g_iload_n hX (dc_X12_most 57 rfl) rfl 3 rfl ?_
      refine g_iconst (w := (-1 : Int32)) hX (dc_X12_most 58 rfl) (by decide) ?_
      refine g_icmp_eq (tgt := 113) hX (dc_X12_most 59 rfl) (by decide) (fun h15 => ?_) (fun h15 => ?_)
      · exact g_sub [0, 1, 2, 5, 6] rfl (c_X12_most_113 hX hO hΩ σ _ hk39 (y1) (y2) (y5) (y6))
      · refine g_iload hX (dc_X12_most 60 rfl) 6 rfl ?_
        refine g_iload_n hX (dc_X12_most 61 rfl) rfl 3 rfl ?_
        refine g_icmp_ge (tgt := 127) hX (dc_X12_most 62 rfl) (by decide) (fun h16 => ?_) (fun h16 => ?_)
        · exact g_sub [0, 1, 2, 3, 4, 5] rfl (c_X12_most_127 hX hO hΩ σ _ hk39 (y1) (y2) (y3) (y4) (y5))
        · exact g_sub [0, 1, 2, 5, 6] rfl (c_X12_most_113 hX hO hΩ σ _ hk39 (y1) (y2) (y5) (y6))
    · refine g_iload hX (dc_X12_most 36 rfl) 6 rfl ?_
      refine g_aload_n hX (dc_X12_most 37 rfl) rfl 0 rfl ?_
      refine g_iload hX (dc_X12_most 38 rfl) 7 rfl ?_
      refine g_aload_n hX (dc_X12_most 39 rfl) rfl 0 rfl ?_
      refine g_getF (q := 1) hX (dc_X12_most 40 rfl) fl_X12_9 (by decide) rfl (stS hΩ 0 rfl) rfl ?_
      refine g_iconst (w := (5 : Int32)) hX (dc_X12_most 41 rfl) (by decide) ?_
      refine g_iald (j := 5) hX (dc_X12_most 42 rfl) (stS hΩ 1 rfl) (by decide) (by decide) ?_
      refine g_iload hX (dc_X12_most 43 rfl) 5 rfl ?_
      refine g_iadd hX (dc_X12_most 44 rfl) ?_
      refine gV_PI (As := [.int y7, .int ((sI σ 1 5) + y5)]) (st := [.int y6]) hX (dc_X12_most 45 rfl) ml_X12_381 (con_X12_isAsleep hO hΩ y7 ((sI σ 1 5) + y5) σ) (stS hΩ 0 rfl) rfl rfl ⟨by decide, by decide⟩ ⟨rfl, rfl⟩ ⟨Nat.zero_le _, Nat.zero_le _⟩ (Nat.le_of_ble_eq_true rfl) (fun r17 _ => ?_)
      refine g_if_eq (tgt := 86) hX (dc_X12_most 46 rfl) (by decide) (fun h18 => ?_) (fun h18 => ?_)
      · refine g_aload_n hX (dc_X12_most 49 rfl) rfl 0 rfl ?_
        refine g_getF (q := 7) hX (dc_X12_most 50 rfl) fl_X12_28 (by decide) rfl (stS hΩ 0 rfl) rfl ?_
        refine g_iload hX (dc_X12_most 51 rfl) 7 rfl ?_
        refine g_chk (fun hc19 => ?_)
        refine g_iald hX (dc_X12_most 52 rfl) (stS hΩ 7 rfl) hc19 rfl ?_
        exact g_sub [0, 1, 2, 3, 4, 5, 7] rfl (c_X12_most_93 hX hO hΩ σ _ hk39 _ hk51 (y1) (y2) (y3) (y4) (y5) (y7) ((sI σ 7 (ix y7))) (y6))
      · refine g_iconst (w := (0 : Int32)) hX (dc_X12_most 47 rfl) (by decide) ?_
        refine g_goto (tgt := 93) hX (dc_X12_most 48 rfl) (by decide) ?_
        exact g_sub [0, 1, 2, 3, 4, 5, 7] rfl (c_X12_most_93 hX hO hΩ σ _ hk39 _ hk51 (y1) (y2) (y3) (y4) (y5) (y7) ((0 : Int32)) (y6))
def b_X12_most_39   : Nat → Int32 → Int32 → Int32 → Int32 → Int32 → MS → Option (Int32)
  | 0, _, _, _, _, _, _ => none
  | n + 1, y1, y2, y3, y4, y5, σ => (if y1 ≤ y5 then (if y2 = 0 then (b_X12_most_143 (y3) σ) else (b_X12_most_143 (y4) σ)) else (b_X12_most_51 (b_X12_most_39  n) FU (y1) (y2) (y3) (y4) (y5) ((0 : Int32)) ((0 : Int32)) σ))
set_option maxHeartbeats 4000000 in
set_option maxRecDepth 20000 in
theorem c_X12_most_39 {X : CX} {Ω : OM} (hX : CF X Ω RX12 cX12_most 8 (some .int) rm_X12_most) (hO : OKO Ω) (hΩ : oSH Ω = SHM)   (σ : MS)  : ∀ (n : Nat) (y1 : Int32) (y2 : Int32) (y3 : Int32) (y4 : Int32) (y5 : Int32)  , GE X Ω 8 0 0 (emPI σ) 0 0 39 [(0, .ref 0), (1, .int y1), (2, .int y2), (3, .int y3), (4, .int y4), (5, .int y5)] [] σ (b_X12_most_39  n y1 y2 y3 y4 y5 σ)
  | 0, _, _, _, _, _ => g_none
  | n + 1, y1, y2, y3, y4, y5 => by
    have hk39 := c_X12_most_39 hX hO hΩ  σ n
    unfold b_X12_most_39
    refine g_iload hX (dc_X12_most 23 rfl) 5 rfl ?_
    refine g_iload_n hX (dc_X12_most 24 rfl) rfl 1 rfl ?_
    refine g_icmp_ge (tgt := 133) hX (dc_X12_most 25 rfl) (by decide) (fun h20 => ?_) (fun h20 => ?_)
    · refine g_iload_n hX (dc_X12_most 74 rfl) rfl 2 rfl ?_
      refine g_if_ne (tgt := 141) hX (dc_X12_most 75 rfl) (by decide) (fun h21 => ?_) (fun h21 => ?_)
      · refine g_iload_n hX (dc_X12_most 76 rfl) rfl 3 rfl ?_
        refine g_goto (tgt := 143) hX (dc_X12_most 77 rfl) (by decide) ?_
        exact g_sub [] rfl (c_X12_most_143 hX hO hΩ σ (y3))
      · refine g_iload hX (dc_X12_most 78 rfl) 4 rfl ?_
        exact g_sub [] rfl (c_X12_most_143 hX hO hΩ σ (y4))
    · refine g_iconst (w := (0 : Int32)) hX (dc_X12_most 26 rfl) (by decide) ?_
      refine g_istore (L' := [(6, .int (0 : Int32)), (0, .ref 0), (1, .int y1), (2, .int y2), (3, .int y3), (4, .int y4), (5, .int y5)]) hX (dc_X12_most 27 rfl) (by decide) rfl ?_
      refine g_iconst (w := (0 : Int32)) hX (dc_X12_most 28 rfl) (by decide) ?_
      refine g_istore (L' := [(7, .int (0 : Int32)), (6, .int (0 : Int32)), (0, .ref 0), (1, .int y1), (2, .int y2), (3, .int y3), (4, .int y4), (5, .int y5)]) hX (dc_X12_most 29 rfl) (by decide) rfl ?_
      exact g_sub [2, 3, 4, 5, 6, 7, 1, 0] rfl (c_X12_most_51 hX hO hΩ σ _ hk39 FU (y1) (y2) (y3) (y4) (y5) ((0 : Int32)) ((0 : Int32)))
def b_X12_most_29     (σ : MS) : Option (Int32) := some (-1 : Int32)
set_option maxHeartbeats 4000000 in
set_option maxRecDepth 20000 in
theorem c_X12_most_29 {X : CX} {Ω : OM} (hX : CF X Ω RX12 cX12_most 8 (some .int) rm_X12_most) (hO : OKO Ω) (hΩ : oSH Ω = SHM)   (σ : MS)      : GE X Ω 8 0 0 (emPI σ) 0 0 29 [] [] σ (b_X12_most_29  σ) := by
  unfold b_X12_most_29
  refine g_iconst (w := (-1 : Int32)) hX (dc_X12_most 15 rfl) (by decide) ?_
  exact g_iret hX (dc_X12_most 16 rfl) rfl rfl (Nat.le_refl _) (Nat.le_refl _)
def b_X12_most_0   (x1 : Int32) (x2 : Int32)  (σ : MS) : Option (Int32) := (if (sI σ 0 28) = 0 then (b_X12_most_29 σ) else (f_X12_in (x1).toInt64 (1 : Int64) (48 : Int64)).bind (fun r23 => (if r23 = 0 then (b_X12_most_29 σ) else (f_X12_in (x2).toInt64 (0 : Int64) (1 : Int64)).bind (fun r25 => (if r25 = 0 then (b_X12_most_29 σ) else (b_X12_most_39 FU (x1) (x2) ((-1 : Int32)) ((-1 : Int32)) ((0 : Int32)) σ))))))
set_option maxHeartbeats 4000000 in
set_option maxRecDepth 20000 in
theorem c_X12_most_0 {X : CX} {Ω : OM} (hX : CF X Ω RX12 cX12_most 8 (some .int) rm_X12_most) (hO : OKO Ω) (hΩ : oSH Ω = SHM)   (σ : MS)  (x1 : Int32) (x2 : Int32)    : GE X Ω 8 0 0 (emPI σ) 0 0 0 [(0, .ref 0), (1, .int x1), (2, .int x2)] [] σ (b_X12_most_0  x1 x2 σ) := by
  unfold b_X12_most_0
  refine g_aload_n hX (dc_X12_most 0 rfl) rfl 0 rfl ?_
  refine g_getI hX (dc_X12_most 1 rfl) fl_X12_341 (by decide) rfl (stS hΩ 0 rfl) ?_
  refine g_if_eq (tgt := 29) hX (dc_X12_most 2 rfl) (by decide) (fun h22 => ?_) (fun h22 => ?_)
  · exact g_sub [] rfl (c_X12_most_29 hX hO hΩ σ)
  · refine g_iload_n hX (dc_X12_most 3 rfl) rfl 1 rfl ?_
    refine g_i2l hX (dc_X12_most 4 rfl) ?_
    refine g_lconst (w := (1 : Int64)) hX (dc_X12_most 5 rfl) (by decide) ?_
    refine g_ldc2 hX (dc_X12_most 6 rfl) wk_X12_206 ?_
    refine gS_PI (As := [.long (x1).toInt64, .long (1 : Int64), .long (48 : Int64)]) (st := []) hX (dc_X12_most 7 rfl) ml_X12_161 (con_X12_in hO hΩ (x1).toInt64 (1 : Int64) (48 : Int64) σ) rfl rfl ⟨by decide, by decide⟩ ⟨rfl, rfl⟩ ⟨Nat.zero_le _, Nat.zero_le _⟩ (Nat.le_of_ble_eq_true rfl) (fun r23 _ => ?_)
    refine g_if_eq (tgt := 29) hX (dc_X12_most 8 rfl) (by decide) (fun h24 => ?_) (fun h24 => ?_)
    · exact g_sub [] rfl (c_X12_most_29 hX hO hΩ σ)
    · refine g_iload_n hX (dc_X12_most 9 rfl) rfl 2 rfl ?_
      refine g_i2l hX (dc_X12_most 10 rfl) ?_
      refine g_lconst (w := (0 : Int64)) hX (dc_X12_most 11 rfl) (by decide) ?_
      refine g_lconst (w := (1 : Int64)) hX (dc_X12_most 12 rfl) (by decide) ?_
      refine gS_PI (As := [.long (x2).toInt64, .long (0 : Int64), .long (1 : Int64)]) (st := []) hX (dc_X12_most 13 rfl) ml_X12_161 (con_X12_in hO hΩ (x2).toInt64 (0 : Int64) (1 : Int64) σ) rfl rfl ⟨by decide, by decide⟩ ⟨rfl, rfl⟩ ⟨Nat.zero_le _, Nat.zero_le _⟩ (Nat.le_of_ble_eq_true rfl) (fun r25 _ => ?_)
      refine g_if_ne (tgt := 31) hX (dc_X12_most 14 rfl) (by decide) (fun h26 => ?_) (fun h26 => ?_)
      · exact g_sub [] rfl (c_X12_most_29 hX hO hΩ σ)
      · refine g_iconst (w := (-1 : Int32)) hX (dc_X12_most 17 rfl) (by decide) ?_
        refine g_istore_n (L' := [(3, .int (-1 : Int32)), (0, .ref 0), (1, .int x1), (2, .int x2)]) hX (dc_X12_most 18 rfl) rfl (by decide) rfl ?_
        refine g_iconst (w := (-1 : Int32)) hX (dc_X12_most 19 rfl) (by decide) ?_
        refine g_istore (L' := [(4, .int (-1 : Int32)), (3, .int (-1 : Int32)), (0, .ref 0), (1, .int x1), (2, .int x2)]) hX (dc_X12_most 20 rfl) (by decide) rfl ?_
        refine g_iconst (w := (0 : Int32)) hX (dc_X12_most 21 rfl) (by decide) ?_
        refine g_istore (L' := [(5, .int (0 : Int32)), (4, .int (-1 : Int32)), (3, .int (-1 : Int32)), (0, .ref 0), (1, .int x1), (2, .int x2)]) hX (dc_X12_most 22 rfl) (by decide) rfl ?_
        exact g_sub [3, 4, 5, 2, 1, 0] rfl (c_X12_most_39 hX hO hΩ σ FU (x1) (x2) ((-1 : Int32)) ((-1 : Int32)) ((0 : Int32)))
def f_X12_most (x1 : Int32) (x2 : Int32) (σ : MS) : Option (Int32) := b_X12_most_0  x1 x2 σ
theorem con_X12_most {Ω : OM} (hO : OKO Ω) (hΩ : oSH Ω = SHM) (x1 : Int32) (x2 : Int32) (σ : MS)  : Con Ω yX12_most cX12_most 8 (some .int) rm_X12_most (emPI σ) [.ref 0, .int x1, .int x2] σ (f_X12_most x1 x2 σ) :=
  con_of hO (by decide +kernel) (Nat.le_of_ble_eq_true rfl) rfl (fun X hX _ => c_X12_most_0 hX hO hΩ   σ x1 x2)
def it_X12_laysRow : List (Nat × Instr × Nat × Nat) := [(0, .aload_n 0, 1, 1), (1, .getfield 9, 3, 4), (4, .iconst 4, 1, 5), (5, .iaload, 1, 6), (6, .istore_n 2, 1, 7), (7, .iload_n 1, 1, 8), (8, .istore_n 3, 1, 9), (9, .iconst 0, 1, 10), (10, .istore 4, 2, 12), (12, .iload_n 2, 1, 13), (13, .iconst 1, 1, 14), (14, .isub, 1, 15), (15, .istore 5, 2, 17), (17, .iload 5, 2, 19), (19, .ifCond .lt 91, 3, 22), (22, .aload_n 0, 1, 23), (23, .getfield 136, 3, 26), (26, .iload 5, 2, 28), (28, .iload_n 3, 1, 29), (29, .iload_n 2, 1, 30), (30, .iconst 1, 1, 31), (31, .iadd, 1, 32), (32, .irem, 1, 33), (33, .iconst 1, 1, 34), (34, .isub, 1, 35), (35, .iastore, 1, 36), (36, .iload_n 3, 1, 37), (37, .iload_n 2, 1, 38), (38, .iconst 1, 1, 39), (39, .iadd, 1, 40), (40, .idiv, 1, 41), (41, .istore_n 3, 1, 42), (42, .aload_n 0, 1, 43), (43, .getfield 136, 3, 46), (46, .iload 5, 2, 48), (48, .iaload, 1, 49), (49, .iconst (-1), 1, 50), (50, .if_icmp .eq 54, 3, 53), (53, .aload_n 0, 1, 54), (54, .getfield 40, 3, 57), (57, .iload 5, 2, 59), (59, .iaload, 1, 60), (60, .aload_n 0, 1, 61), (61, .getfield 136, 3, 64), (64, .iload 5, 2, 66), (66, .iaload, 1, 67), (67, .invokestatic 396, 3, 70), (70, .ifCond .eq 18, 3, 73), (73, .iload 4, 2, 75), (75, .aload_n 0, 1, 76), (76, .getfield 136, 3, 79), (79, .iload 5, 2, 81), (81, .iaload, 1, 82), (82, .invokestatic 396, 3, 85), (85, .ifCond .eq 5, 3, 88), (88, .iconst 0, 1, 89), (89, .ireturn, 1, 90), (90, .iload 4, 2, 92), (92, .iconst 1, 1, 93), (93, .aload_n 0, 1, 94), (94, .getfield 136, 3, 97), (97, .iload 5, 2, 99), (99, .iaload, 1, 100), (100, .ishl, 1, 101), (101, .ior, 1, 102), (102, .istore 4, 2, 104), (104, .iinc 5 (-1), 3, 107), (107, .goto (-90), 3, 110), (110, .iconst 0, 1, 111), (111, .istore 5, 2, 113), (113, .iload 5, 2, 115), (115, .iload_n 2, 1, 116), (116, .if_icmp .ge 51, 3, 119), (119, .iload 5, 2, 121), (121, .istore 6, 2, 123), (123, .iconst 0, 1, 124), (124, .istore 7, 2, 126), (126, .iload 7, 2, 128), (128, .iload_n 2, 1, 129), (129, .if_icmp .ge 24, 3, 132), (132, .iload 6, 2, 134), (134, .iconst (-1), 1, 135), (135, .if_icmp .eq 18, 3, 138), (138, .aload_n 0, 1, 139), (139, .getfield 136, 3, 142), (142, .iload 6, 2, 144), (144, .iaload, 1, 145), (145, .istore 6, 2, 147), (147, .iinc 7 1, 3, 150), (150, .goto (-24), 3, 153), (153, .iload 6, 2, 155), (155, .iconst (-1), 1, 156), (156, .if_icmp .eq 5, 3, 159), (159, .iconst 0, 1, 160), (160, .ireturn, 1, 161), (161, .iinc 5 1, 3, 164), (164, .goto (-51), 3, 167), (167, .iconst 1, 1, 168), (168, .ireturn, 1, 169)]
theorem id_X12_laysRow : ∀ q ∈ it_X12_laysRow, decode cX12_laysRow q.1 = .ok (q.2.1, q.2.2.1) ∧ q.1 + q.2.2.1 = q.2.2.2 := by decide +kernel
theorem dc_X12_laysRow {pc : Nat} {i : Instr} {n pc' : Nat} (j : Nat) (h : it_X12_laysRow[j]? = some (pc, i, n, pc')) : Dc cX12_laysRow pc i n pc' := dc_of id_X12_laysRow j h
abbrev rm_X12_laysRow : Room := { frames := 1, cells := 0, slots := 0, locals := 21 }
def b_X12_laysRow_153  (k113 : Int32 → Int32 → MS → Option (Int32 × MS))  (y2 : Int32) (y5 : Int32) (y6 : Int32) (σ : MS) : Option (Int32 × MS) := (if y6 = (-1 : Int32) then (k113 (y2) ((y5 + (1 : Int32))) σ) else some ((0 : Int32), σ))
set_option maxHeartbeats 4000000 in
set_option maxRecDepth 20000 in
theorem c_X12_laysRow_153 {X : CX} {Ω : OM} (hX : CF X Ω RX12 cX12_laysRow 8 (some .boolean) rm_X12_laysRow) (hO : OKO Ω) (hΩ : oSH Ω = SHM)   (k113 : Int32 → Int32 → MS → Option (Int32 × MS)) (hk113 : ∀ (y2 : Int32) (y5 : Int32) (σ : MS) , GE X Ω 8 0 0 (emWI) 0 0 113 [(0, .ref 0), (2, .int y2), (5, .int y5)] [] σ (k113 y2 y5 σ))  (y2 : Int32) (y5 : Int32) (y6 : Int32) (σ : MS)  : GE X Ω 8 0 0 (emWI) 0 0 153 [(0, .ref 0), (2, .int y2), (5, .int y5), (6, .int y6)] [] σ (b_X12_laysRow_153  k113 y2 y5 y6 σ) := by
  unfold b_X12_laysRow_153
  refine g_iload hX (dc_X12_laysRow 90 rfl) 3 rfl ?_
  refine g_iconst (w := (-1 : Int32)) hX (dc_X12_laysRow 91 rfl) (by decide) ?_
  refine g_icmp_eq (tgt := 161) hX (dc_X12_laysRow 92 rfl) (by decide) (fun h20 => ?_) (fun h20 => ?_)
  · refine g_iinc (w := (y5 + (1 : Int32))) (L' := [(5, .int (y5 + (1 : Int32))), (0, .ref 0), (2, .int y2), (6, .int y6)]) hX (dc_X12_laysRow 95 rfl) 2 rfl rfl (by decide) rfl ?_
    refine g_goto (tgt := 113) hX (dc_X12_laysRow 96 rfl) (by decide) ?_
    exact g_sub [1, 2, 0] rfl (hk113 (y2) ((y5 + (1 : Int32))) σ )
  · refine g_iconst (w := (0 : Int32)) hX (dc_X12_laysRow 93 rfl) (by decide) ?_
    exact g_iret hX (dc_X12_laysRow 94 rfl) rfl rfl (Nat.le_refl _) (Nat.le_refl _)
def b_X12_laysRow_126  (k113 : Int32 → Int32 → MS → Option (Int32 × MS)) : Nat → Int32 → Int32 → Int32 → Int32 → MS → Option (Int32 × MS)
  | 0, _, _, _, _, _ => none
  | n + 1, y2, y5, y6, y7, σ => (if y2 ≤ y7 then (b_X12_laysRow_153 k113 (y2) (y5) (y6) σ) else (if y6 = (-1 : Int32) then (b_X12_laysRow_153 k113 (y2) (y5) (y6) σ) else chk (inb y6 6) (((b_X12_laysRow_126  k113 n) (y2) (y5) ((sI σ 41 (ix y6))) ((y7 + (1 : Int32))) σ))))
set_option maxHeartbeats 4000000 in
set_option maxRecDepth 20000 in
theorem c_X12_laysRow_126 {X : CX} {Ω : OM} (hX : CF X Ω RX12 cX12_laysRow 8 (some .boolean) rm_X12_laysRow) (hO : OKO Ω) (hΩ : oSH Ω = SHM)   (k113 : Int32 → Int32 → MS → Option (Int32 × MS)) (hk113 : ∀ (y2 : Int32) (y5 : Int32) (σ : MS) , GE X Ω 8 0 0 (emWI) 0 0 113 [(0, .ref 0), (2, .int y2), (5, .int y5)] [] σ (k113 y2 y5 σ)) : ∀ (n : Nat) (y2 : Int32) (y5 : Int32) (y6 : Int32) (y7 : Int32) (σ : MS) , GE X Ω 8 0 0 (emWI) 0 0 126 [(0, .ref 0), (2, .int y2), (5, .int y5), (6, .int y6), (7, .int y7)] [] σ (b_X12_laysRow_126  k113 n y2 y5 y6 y7 σ)
  | 0, _, _, _, _, _ => g_none
  | n + 1, y2, y5, y6, y7, σ => by
    have hk126 := c_X12_laysRow_126 hX hO hΩ  k113 hk113 n
    unfold b_X12_laysRow_126
    refine g_iload hX (dc_X12_laysRow 77 rfl) 4 rfl ?_
    refine g_iload_n hX (dc_X12_laysRow 78 rfl) rfl 1 rfl ?_
    refine g_icmp_ge (tgt := 153) hX (dc_X12_laysRow 79 rfl) (by decide) (fun h21 => ?_) (fun h21 => ?_)
    · exact g_sub [0, 1, 2, 3] rfl (c_X12_laysRow_153 hX hO hΩ _ hk113 (y2) (y5) (y6) σ)
    · refine g_iload hX (dc_X12_laysRow 80 rfl) 3 rfl ?_
      refine g_iconst (w := (-1 : Int32)) hX (dc_X12_laysRow 81 rfl) (by decide) ?_
      refine g_icmp_eq (tgt := 153) hX (dc_X12_laysRow 82 rfl) (by decide) (fun h22 => ?_) (fun h22 => ?_)
      · exact g_sub [0, 1, 2, 3] rfl (c_X12_laysRow_153 hX hO hΩ _ hk113 (y2) (y5) (y6) σ)
      · refine g_aload_n hX (dc_X12_laysRow 83 rfl) rfl 0 rfl ?_
        refine g_getF (q := 41) hX (dc_X12_laysRow 84 rfl) fl_X12_136 (by decide) rfl (stS hΩ 0 rfl) rfl ?_
        refine g_iload hX (dc_X12_laysRow 85 rfl) 3 rfl ?_
        refine g_chk (fun hc23 => ?_)
        refine g_iald hX (dc_X12_laysRow 86 rfl) (stS hΩ 41 rfl) hc23 rfl ?_
        refine g_istore (L' := [(6, .int (sI σ 41 (ix y6))), (0, .ref 0), (2, .int y2), (5, .int y5), (7, .int y7)]) hX (dc_X12_laysRow 87 rfl) (by decide) rfl ?_
        refine g_iinc (w := (y7 + (1 : Int32))) (L' := [(7, .int (y7 + (1 : Int32))), (6, .int (sI σ 41 (ix y6))), (0, .ref 0), (2, .int y2), (5, .int y5)]) hX (dc_X12_laysRow 88 rfl) 4 rfl rfl (by decide) rfl ?_
        refine g_goto (tgt := 126) hX (dc_X12_laysRow 89 rfl) (by decide) ?_
        exact g_sub [2, 3, 4, 1, 0] rfl (hk126 (y2) (y5) ((sI σ 41 (ix y6))) ((y7 + (1 : Int32))) σ )
def b_X12_laysRow_113   : Nat → Int32 → Int32 → MS → Option (Int32 × MS)
  | 0, _, _, _ => none
  | n + 1, y2, y5, σ => (if y2 ≤ y5 then some ((1 : Int32), σ) else (b_X12_laysRow_126 (b_X12_laysRow_113  n) FU (y2) (y5) (y5) ((0 : Int32)) σ))
set_option maxHeartbeats 4000000 in
set_option maxRecDepth 20000 in
theorem c_X12_laysRow_113 {X : CX} {Ω : OM} (hX : CF X Ω RX12 cX12_laysRow 8 (some .boolean) rm_X12_laysRow) (hO : OKO Ω) (hΩ : oSH Ω = SHM)    : ∀ (n : Nat) (y2 : Int32) (y5 : Int32) (σ : MS) , GE X Ω 8 0 0 (emWI) 0 0 113 [(0, .ref 0), (2, .int y2), (5, .int y5)] [] σ (b_X12_laysRow_113  n y2 y5 σ)
  | 0, _, _, _ => g_none
  | n + 1, y2, y5, σ => by
    have hk113 := c_X12_laysRow_113 hX hO hΩ  n
    unfold b_X12_laysRow_113
    refine g_iload hX (dc_X12_laysRow 70 rfl) 2 rfl ?_
    refine g_iload_n hX (dc_X12_laysRow 71 rfl) rfl 1 rfl ?_
    refine g_icmp_ge (tgt := 167) hX (dc_X12_laysRow 72 rfl) (by decide) (fun h24 => ?_) (fun h24 => ?_)
    · refine g_iconst (w := (1 : Int32)) hX (dc_X12_laysRow 97 rfl) (by decide) ?_
      exact g_iret hX (dc_X12_laysRow 98 rfl) rfl rfl (Nat.le_refl _) (Nat.le_refl _)
    · refine g_iload hX (dc_X12_laysRow 73 rfl) 2 rfl ?_
      refine g_istore (L' := [(6, .int y5), (0, .ref 0), (2, .int y2), (5, .int y5)]) hX (dc_X12_laysRow 74 rfl) (by decide) rfl ?_
      refine g_iconst (w := (0 : Int32)) hX (dc_X12_laysRow 75 rfl) (by decide) ?_
      refine g_istore (L' := [(7, .int (0 : Int32)), (6, .int y5), (0, .ref 0), (2, .int y2), (5, .int y5)]) hX (dc_X12_laysRow 76 rfl) (by decide) rfl ?_
      exact g_sub [2, 3, 4, 1, 0] rfl (c_X12_laysRow_126 hX hO hΩ _ hk113 FU (y2) (y5) (y5) ((0 : Int32)) σ)
def b_X12_laysRow_104  (k17 : Int32 → Int32 → Int32 → Int32 → MS → Option (Int32 × MS))  (y2 : Int32) (y3 : Int32) (y4 : Int32) (y5 : Int32) (σ : MS) : Option (Int32 × MS) := (k17 (y2) (y3) (y4) ((y5 + (-1 : Int32))) σ)
set_option maxHeartbeats 4000000 in
set_option maxRecDepth 20000 in
theorem c_X12_laysRow_104 {X : CX} {Ω : OM} (hX : CF X Ω RX12 cX12_laysRow 8 (some .boolean) rm_X12_laysRow) (hO : OKO Ω) (hΩ : oSH Ω = SHM)   (k17 : Int32 → Int32 → Int32 → Int32 → MS → Option (Int32 × MS)) (hk17 : ∀ (y2 : Int32) (y3 : Int32) (y4 : Int32) (y5 : Int32) (σ : MS) , GE X Ω 8 0 0 (emWI) 0 0 17 [(0, .ref 0), (2, .int y2), (3, .int y3), (4, .int y4), (5, .int y5)] [] σ (k17 y2 y3 y4 y5 σ))  (y2 : Int32) (y3 : Int32) (y4 : Int32) (y5 : Int32) (σ : MS)  : GE X Ω 8 0 0 (emWI) 0 0 104 [(0, .ref 0), (2, .int y2), (3, .int y3), (4, .int y4), (5, .int y5)] [] σ (b_X12_laysRow_104  k17 y2 y3 y4 y5 σ) := by
  unfold b_X12_laysRow_104
  refine g_iinc (w := (y5 + (-1 : Int32))) (L' := [(5, .int (y5 + (-1 : Int32))), (0, .ref 0), (2, .int y2), (3, .int y3), (4, .int y4)]) hX (dc_X12_laysRow 66 rfl) 4 rfl rfl (by decide) rfl ?_
  refine g_goto (tgt := 17) hX (dc_X12_laysRow 67 rfl) (by decide) ?_
  exact g_sub [1, 2, 3, 4, 0] rfl (hk17 (y2) (y3) (y4) ((y5 + (-1 : Int32))) σ )
def b_X12_laysRow_88     (σ : MS) : Option (Int32 × MS) := some ((0 : Int32), σ)
set_option maxHeartbeats 4000000 in
set_option maxRecDepth 20000 in
theorem c_X12_laysRow_88 {X : CX} {Ω : OM} (hX : CF X Ω RX12 cX12_laysRow 8 (some .boolean) rm_X12_laysRow) (hO : OKO Ω) (hΩ : oSH Ω = SHM)      (σ : MS)  : GE X Ω 8 0 0 (emWI) 0 0 88 [] [] σ (b_X12_laysRow_88  σ) := by
  unfold b_X12_laysRow_88
  refine g_iconst (w := (0 : Int32)) hX (dc_X12_laysRow 55 rfl) (by decide) ?_
  exact g_iret hX (dc_X12_laysRow 56 rfl) rfl rfl (Nat.le_refl _) (Nat.le_refl _)
def b_X12_laysRow_17   : Nat → Int32 → Int32 → Int32 → Int32 → MS → Option (Int32 × MS)
  | 0, _, _, _, _, _ => none
  | n + 1, y2, y3, y4, y5, σ => (if y5 < 0 then (b_X12_laysRow_113 FU (y2) ((0 : Int32)) σ) else chk (¬ (y2 + (1 : Int32)) = 0) (chk (inb y5 6) (chk (¬ (y2 + (1 : Int32)) = 0) (chk (inb y5 6) ((if (sI (wI σ 41 (ix y5) ((y3 - y3 / (y2 + (1 : Int32)) * (y2 + (1 : Int32))) - (1 : Int32))) 41 (ix y5)) = (-1 : Int32) then (b_X12_laysRow_104 (b_X12_laysRow_17  n) (y2) ((y3 / (y2 + (1 : Int32)))) (y4) (y5) (wI σ 41 (ix y5) ((y3 - y3 / (y2 + (1 : Int32)) * (y2 + (1 : Int32))) - (1 : Int32)))) else chk (inb y5 6) (chk (inb y5 6) ((f_X12_has (sI (wI σ 41 (ix y5) ((y3 - y3 / (y2 + (1 : Int32)) * (y2 + (1 : Int32))) - (1 : Int32))) 11 (ix y5)) (sI (wI σ 41 (ix y5) ((y3 - y3 / (y2 + (1 : Int32)) * (y2 + (1 : Int32))) - (1 : Int32))) 41 (ix y5))).bind (fun r33 => (if r33 = 0 then (b_X12_laysRow_88 (wI σ 41 (ix y5) ((y3 - y3 / (y2 + (1 : Int32)) * (y2 + (1 : Int32))) - (1 : Int32)))) else chk (inb y5 6) ((f_X12_has y4 (sI (wI σ 41 (ix y5) ((y3 - y3 / (y2 + (1 : Int32)) * (y2 + (1 : Int32))) - (1 : Int32))) 41 (ix y5))).bind (fun r36 => (if r36 = 0 then chk (inb y5 6) ((b_X12_laysRow_104 (b_X12_laysRow_17  n) (y2) ((y3 / (y2 + (1 : Int32)))) ((y4 ||| ((1 : Int32) <<< ((sI (wI σ 41 (ix y5) ((y3 - y3 / (y2 + (1 : Int32)) * (y2 + (1 : Int32))) - (1 : Int32))) 41 (ix y5)) &&& 31)))) (y5) (wI σ 41 (ix y5) ((y3 - y3 / (y2 + (1 : Int32)) * (y2 + (1 : Int32))) - (1 : Int32))))) else (b_X12_laysRow_88 (wI σ 41 (ix y5) ((y3 - y3 / (y2 + (1 : Int32)) * (y2 + (1 : Int32))) - (1 : Int32)))))))))))))))))
set_option maxHeartbeats 4000000 in
set_option maxRecDepth 20000 in
theorem c_X12_laysRow_17 {X : CX} {Ω : OM} (hX : CF X Ω RX12 cX12_laysRow 8 (some .boolean) rm_X12_laysRow) (hO : OKO Ω) (hΩ : oSH Ω = SHM)    : ∀ (n : Nat) (y2 : Int32) (y3 : Int32) (y4 : Int32) (y5 : Int32) (σ : MS) , GE X Ω 8 0 0 (emWI) 0 0 17 [(0, .ref 0), (2, .int y2), (3, .int y3), (4, .int y4), (5, .int y5)] [] σ (b_X12_laysRow_17  n y2 y3 y4 y5 σ)
  | 0, _, _, _, _, _ => g_none
  | n + 1, y2, y3, y4, y5, σ => by
    have hk17 := c_X12_laysRow_17 hX hO hΩ  n
    unfold b_X12_laysRow_17
    refine g_iload hX (dc_X12_laysRow 13 rfl) 4 rfl ?_
    refine g_if_lt (tgt := 110) hX (dc_X12_laysRow 14 rfl) (by decide) (fun h25 => ?_) (fun h25 => ?_)
    · refine g_iconst (w := (0 : Int32)) hX (dc_X12_laysRow 68 rfl) (by decide) ?_
      refine g_istore (L' := [(5, .int (0 : Int32)), (0, .ref 0), (2, .int y2), (3, .int y3), (4, .int y4)]) hX (dc_X12_laysRow 69 rfl) (by decide) rfl ?_
      exact g_sub [1, 2, 0] rfl (c_X12_laysRow_113 hX hO hΩ FU (y2) ((0 : Int32)) σ)
    · refine g_aload_n hX (dc_X12_laysRow 15 rfl) rfl 0 rfl ?_
      refine g_getF (q := 41) hX (dc_X12_laysRow 16 rfl) fl_X12_136 (by decide) rfl (stS hΩ 0 rfl) rfl ?_
      refine g_iload hX (dc_X12_laysRow 17 rfl) 4 rfl ?_
      refine g_iload_n hX (dc_X12_laysRow 18 rfl) rfl 2 rfl ?_
      refine g_iload_n hX (dc_X12_laysRow 19 rfl) rfl 1 rfl ?_
      refine g_iconst (w := (1 : Int32)) hX (dc_X12_laysRow 20 rfl) (by decide) ?_
      refine g_iadd hX (dc_X12_laysRow 21 rfl) ?_
      refine g_chk (fun hc26 => ?_)
      refine g_irem hX (dc_X12_laysRow 22 rfl) hc26 ?_
      refine g_iconst (w := (1 : Int32)) hX (dc_X12_laysRow 23 rfl) (by decide) ?_
      refine g_isub hX (dc_X12_laysRow 24 rfl) ?_
      refine g_chk (fun hc27 => ?_)
      refine g_iast hX (dc_X12_laysRow 25 rfl) (stS hΩ 41 rfl) hc27 rfl ?_
      refine g_iload_n hX (dc_X12_laysRow 26 rfl) rfl 2 rfl ?_
      refine g_iload_n hX (dc_X12_laysRow 27 rfl) rfl 1 rfl ?_
      refine g_iconst (w := (1 : Int32)) hX (dc_X12_laysRow 28 rfl) (by decide) ?_
      refine g_iadd hX (dc_X12_laysRow 29 rfl) ?_
      refine g_chk (fun hc28 => ?_)
      refine g_idiv hX (dc_X12_laysRow 30 rfl) hc28 ?_
      refine g_istore_n (L' := [(3, .int (y3 / (y2 + (1 : Int32)))), (0, .ref 0), (2, .int y2), (4, .int y4), (5, .int y5)]) hX (dc_X12_laysRow 31 rfl) rfl (by decide) rfl ?_
      refine g_aload_n hX (dc_X12_laysRow 32 rfl) rfl 1 rfl ?_
      refine g_getF (q := 41) hX (dc_X12_laysRow 33 rfl) fl_X12_136 (by decide) rfl (stS hΩ 0 rfl) rfl ?_
      refine g_iload hX (dc_X12_laysRow 34 rfl) 4 rfl ?_
      refine g_chk (fun hc29 => ?_)
      refine g_iald hX (dc_X12_laysRow 35 rfl) (stS hΩ 41 rfl) hc29 rfl ?_
      refine g_iconst (w := (-1 : Int32)) hX (dc_X12_laysRow 36 rfl) (by decide) ?_
      refine g_icmp_eq (tgt := 104) hX (dc_X12_laysRow 37 rfl) (by decide) (fun h30 => ?_) (fun h30 => ?_)
      · exact g_sub [1, 2, 0, 3, 4] rfl (c_X12_laysRow_104 hX hO hΩ _ hk17 (y2) ((y3 / (y2 + (1 : Int32)))) (y4) (y5) (wI σ 41 (ix y5) ((y3 - y3 / (y2 + (1 : Int32)) * (y2 + (1 : Int32))) - (1 : Int32))))
      · refine g_aload_n hX (dc_X12_laysRow 38 rfl) rfl 1 rfl ?_
        refine g_getF (q := 11) hX (dc_X12_laysRow 39 rfl) fl_X12_40 (by decide) rfl (stS hΩ 0 rfl) rfl ?_
        refine g_iload hX (dc_X12_laysRow 40 rfl) 4 rfl ?_
        refine g_chk (fun hc31 => ?_)
        refine g_iald hX (dc_X12_laysRow 41 rfl) (stS hΩ 11 rfl) hc31 rfl ?_
        refine g_aload_n hX (dc_X12_laysRow 42 rfl) rfl 1 rfl ?_
        refine g_getF (q := 41) hX (dc_X12_laysRow 43 rfl) fl_X12_136 (by decide) rfl (stS hΩ 0 rfl) rfl ?_
        refine g_iload hX (dc_X12_laysRow 44 rfl) 4 rfl ?_
        refine g_chk (fun hc32 => ?_)
        refine g_iald hX (dc_X12_laysRow 45 rfl) (stS hΩ 41 rfl) hc32 rfl ?_
        refine gS_PI (As := [.int (sI (wI σ 41 (ix y5) ((y3 - y3 / (y2 + (1 : Int32)) * (y2 + (1 : Int32))) - (1 : Int32))) 11 (ix y5)), .int (sI (wI σ 41 (ix y5) ((y3 - y3 / (y2 + (1 : Int32)) * (y2 + (1 : Int32))) - (1 : Int32))) 41 (ix y5))]) (st := []) hX (dc_X12_laysRow 46 rfl) ml_X12_396 (con_X12_has hO hΩ (sI (wI σ 41 (ix y5) ((y3 - y3 / (y2 + (1 : Int32)) * (y2 + (1 : Int32))) - (1 : Int32))) 11 (ix y5)) (sI (wI σ 41 (ix y5) ((y3 - y3 / (y2 + (1 : Int32)) * (y2 + (1 : Int32))) - (1 : Int32))) 41 (ix y5)) (wI σ 41 (ix y5) ((y3 - y3 / (y2 + (1 : Int32)) * (y2 + (1 : Int32))) - (1 : Int32)))) rfl rfl ⟨by decide, by decide⟩ ⟨rfl, rfl⟩ ⟨Nat.zero_le _, Nat.zero_le _⟩ (Nat.le_of_ble_eq_true rfl) (fun r33 _ => ?_)
        refine g_if_eq (tgt := 88) hX (dc_X12_laysRow 47 rfl) (by decide) (fun h34 => ?_) (fun h34 => ?_)
        · exact g_sub [] rfl (c_X12_laysRow_88 hX hO hΩ (wI σ 41 (ix y5) ((y3 - y3 / (y2 + (1 : Int32)) * (y2 + (1 : Int32))) - (1 : Int32))))
        · refine g_iload hX (dc_X12_laysRow 48 rfl) 3 rfl ?_
          refine g_aload_n hX (dc_X12_laysRow 49 rfl) rfl 1 rfl ?_
          refine g_getF (q := 41) hX (dc_X12_laysRow 50 rfl) fl_X12_136 (by decide) rfl (stS hΩ 0 rfl) rfl ?_
          refine g_iload hX (dc_X12_laysRow 51 rfl) 4 rfl ?_
          refine g_chk (fun hc35 => ?_)
          refine g_iald hX (dc_X12_laysRow 52 rfl) (stS hΩ 41 rfl) hc35 rfl ?_
          refine gS_PI (As := [.int y4, .int (sI (wI σ 41 (ix y5) ((y3 - y3 / (y2 + (1 : Int32)) * (y2 + (1 : Int32))) - (1 : Int32))) 41 (ix y5))]) (st := []) hX (dc_X12_laysRow 53 rfl) ml_X12_396 (con_X12_has hO hΩ y4 (sI (wI σ 41 (ix y5) ((y3 - y3 / (y2 + (1 : Int32)) * (y2 + (1 : Int32))) - (1 : Int32))) 41 (ix y5)) (wI σ 41 (ix y5) ((y3 - y3 / (y2 + (1 : Int32)) * (y2 + (1 : Int32))) - (1 : Int32)))) rfl rfl ⟨by decide, by decide⟩ ⟨rfl, rfl⟩ ⟨Nat.zero_le _, Nat.zero_le _⟩ (Nat.le_of_ble_eq_true rfl) (fun r36 _ => ?_)
          refine g_if_eq (tgt := 90) hX (dc_X12_laysRow 54 rfl) (by decide) (fun h37 => ?_) (fun h37 => ?_)
          · refine g_iload hX (dc_X12_laysRow 57 rfl) 3 rfl ?_
            refine g_iconst (w := (1 : Int32)) hX (dc_X12_laysRow 58 rfl) (by decide) ?_
            refine g_aload_n hX (dc_X12_laysRow 59 rfl) rfl 1 rfl ?_
            refine g_getF (q := 41) hX (dc_X12_laysRow 60 rfl) fl_X12_136 (by decide) rfl (stS hΩ 0 rfl) rfl ?_
            refine g_iload hX (dc_X12_laysRow 61 rfl) 4 rfl ?_
            refine g_chk (fun hc38 => ?_)
            refine g_iald hX (dc_X12_laysRow 62 rfl) (stS hΩ 41 rfl) hc38 rfl ?_
            refine g_ishl hX (dc_X12_laysRow 63 rfl) ?_
            refine g_ior hX (dc_X12_laysRow 64 rfl) ?_
            refine g_istore (L' := [(4, .int (y4 ||| ((1 : Int32) <<< ((sI (wI σ 41 (ix y5) ((y3 - y3 / (y2 + (1 : Int32)) * (y2 + (1 : Int32))) - (1 : Int32))) 41 (ix y5)) &&& 31)))), (3, .int (y3 / (y2 + (1 : Int32)))), (0, .ref 0), (2, .int y2), (5, .int y5)]) hX (dc_X12_laysRow 65 rfl) (by decide) rfl ?_
            exact g_sub [2, 3, 1, 0, 4] rfl (c_X12_laysRow_104 hX hO hΩ _ hk17 (y2) ((y3 / (y2 + (1 : Int32)))) ((y4 ||| ((1 : Int32) <<< ((sI (wI σ 41 (ix y5) ((y3 - y3 / (y2 + (1 : Int32)) * (y2 + (1 : Int32))) - (1 : Int32))) 41 (ix y5)) &&& 31)))) (y5) (wI σ 41 (ix y5) ((y3 - y3 / (y2 + (1 : Int32)) * (y2 + (1 : Int32))) - (1 : Int32))))
          · exact g_sub [] rfl (c_X12_laysRow_88 hX hO hΩ (wI σ 41 (ix y5) ((y3 - y3 / (y2 + (1 : Int32)) * (y2 + (1 : Int32))) - (1 : Int32))))
def b_X12_laysRow_0   (x1 : Int32)  (σ : MS) : Option (Int32 × MS) := (b_X12_laysRow_17 FU ((sI σ 1 4)) (x1) ((0 : Int32)) (((sI σ 1 4) - (1 : Int32))) σ)
set_option maxHeartbeats 4000000 in
set_option maxRecDepth 20000 in
theorem c_X12_laysRow_0 {X : CX} {Ω : OM} (hX : CF X Ω RX12 cX12_laysRow 8 (some .boolean) rm_X12_laysRow) (hO : OKO Ω) (hΩ : oSH Ω = SHM)    (x1 : Int32)  (σ : MS)  : GE X Ω 8 0 0 (emWI) 0 0 0 [(0, .ref 0), (1, .int x1)] [] σ (b_X12_laysRow_0  x1 σ) := by
  unfold b_X12_laysRow_0
  refine g_aload_n hX (dc_X12_laysRow 0 rfl) rfl 0 rfl ?_
  refine g_getF (q := 1) hX (dc_X12_laysRow 1 rfl) fl_X12_9 (by decide) rfl (stS hΩ 0 rfl) rfl ?_
  refine g_iconst (w := (4 : Int32)) hX (dc_X12_laysRow 2 rfl) (by decide) ?_
  refine g_iald (j := 4) hX (dc_X12_laysRow 3 rfl) (stS hΩ 1 rfl) (by decide) (by decide) ?_
  refine g_istore_n (L' := [(2, .int (sI σ 1 4)), (0, .ref 0), (1, .int x1)]) hX (dc_X12_laysRow 4 rfl) rfl (by decide) rfl ?_
  refine g_iload_n hX (dc_X12_laysRow 5 rfl) rfl 2 rfl ?_
  refine g_istore_n (L' := [(3, .int x1), (2, .int (sI σ 1 4)), (0, .ref 0), (1, .int x1)]) hX (dc_X12_laysRow 6 rfl) rfl (by decide) rfl ?_
  refine g_iconst (w := (0 : Int32)) hX (dc_X12_laysRow 7 rfl) (by decide) ?_
  refine g_istore (L' := [(4, .int (0 : Int32)), (3, .int x1), (2, .int (sI σ 1 4)), (0, .ref 0), (1, .int x1)]) hX (dc_X12_laysRow 8 rfl) (by decide) rfl ?_
  refine g_iload_n hX (dc_X12_laysRow 9 rfl) rfl 2 rfl ?_
  refine g_iconst (w := (1 : Int32)) hX (dc_X12_laysRow 10 rfl) (by decide) ?_
  refine g_isub hX (dc_X12_laysRow 11 rfl) ?_
  refine g_istore (L' := [(5, .int ((sI σ 1 4) - (1 : Int32))), (4, .int (0 : Int32)), (3, .int x1), (2, .int (sI σ 1 4)), (0, .ref 0), (1, .int x1)]) hX (dc_X12_laysRow 12 rfl) (by decide) rfl ?_
  exact g_sub [4, 3, 2, 1, 0] rfl (c_X12_laysRow_17 hX hO hΩ FU ((sI σ 1 4)) (x1) ((0 : Int32)) (((sI σ 1 4) - (1 : Int32))) σ)
def f_X12_laysRow (x1 : Int32) (σ : MS) : Option (Int32 × MS) := b_X12_laysRow_0  x1 σ
theorem con_X12_laysRow {Ω : OM} (hO : OKO Ω) (hΩ : oSH Ω = SHM) (x1 : Int32) (σ : MS)  : Con Ω yX12_laysRow cX12_laysRow 8 (some .boolean) rm_X12_laysRow (emWI) [.ref 0, .int x1] σ (f_X12_laysRow x1 σ) :=
  con_of hO (by decide +kernel) (Nat.le_of_ble_eq_true rfl) rfl (fun X hX _ => c_X12_laysRow_0 hX hO hΩ   x1 σ )
def it_X12_beginsIn : List (Nat × Instr × Nat × Nat) := [(0, .iconst 0, 1, 1), (1, .istore_n 2, 1, 2), (2, .iconst 0, 1, 3), (3, .istore_n 3, 1, 4), (4, .iload_n 3, 1, 5), (5, .aload_n 0, 1, 6), (6, .getfield 9, 3, 9), (9, .iconst 4, 1, 10), (10, .iaload, 1, 11), (11, .if_icmp .ge 24, 3, 14), (14, .iload_n 2, 1, 15), (15, .aload_n 1, 1, 16), (16, .iload_n 3, 1, 17), (17, .iaload, 1, 18), (18, .iconst (-1), 1, 19), (19, .if_icmp .ne 7, 3, 22), (22, .iconst 1, 1, 23), (23, .goto 4, 3, 26), (26, .iconst 0, 1, 27), (27, .iadd, 1, 28), (28, .istore_n 2, 1, 29), (29, .iinc 3 1, 3, 32), (32, .goto (-28), 3, 35), (35, .iload_n 2, 1, 36), (36, .ireturn, 1, 37)]
theorem id_X12_beginsIn : ∀ q ∈ it_X12_beginsIn, decode cX12_beginsIn q.1 = .ok (q.2.1, q.2.2.1) ∧ q.1 + q.2.2.1 = q.2.2.2 := by decide +kernel
theorem dc_X12_beginsIn {pc : Nat} {i : Instr} {n pc' : Nat} (j : Nat) (h : it_X12_beginsIn[j]? = some (pc, i, n, pc')) : Dc cX12_beginsIn pc i n pc' := dc_of id_X12_beginsIn j h
abbrev rm_X12_beginsIn : Room := { frames := 0, cells := 0, slots := 0, locals := 0 }
def b_X12_beginsIn_27 (a1 : Nat) (n1 : Nat) (k4 : Int32 → Int32 → MS → Option (Int32))  (y3 : Int32) (s0 : Int32) (s1 : Int32) (σ : MS) : Option (Int32) := (k4 ((s1 + s0)) ((y3 + (1 : Int32))) σ)
set_option maxHeartbeats 4000000 in
set_option maxRecDepth 20000 in
theorem c_X12_beginsIn_27 {X : CX} {Ω : OM} (hX : CF X Ω RX12 cX12_beginsIn 4 (some .int) rm_X12_beginsIn) (hO : OKO Ω) (hΩ : oSH Ω = SHM) (a1 : Nat) (n1 : Nat) (ha1 : (oSH Ω)[a1]? = some (0, n1)) (σ : MS) (k4 : Int32 → Int32 → MS → Option (Int32)) (hk4 : ∀ (y2 : Int32) (y3 : Int32), GE X Ω 4 0 0 (emPI σ) 0 0 4 [(0, .ref 0), (1, .ref a1), (2, .int y2), (3, .int y3)] [] σ (k4 y2 y3 σ))  (y3 : Int32) (s0 : Int32) (s1 : Int32)   : GE X Ω 4 0 0 (emPI σ) 0 0 27 [(0, .ref 0), (1, .ref a1), (3, .int y3)] [.int s0, .int s1] σ (b_X12_beginsIn_27 a1 n1 k4 y3 s0 s1 σ) := by
  unfold b_X12_beginsIn_27
  refine g_iadd hX (dc_X12_beginsIn 19 rfl) ?_
  refine g_istore_n (L' := [(2, .int (s1 + s0)), (0, .ref 0), (1, .ref a1), (3, .int y3)]) hX (dc_X12_beginsIn 20 rfl) rfl (by decide) rfl ?_
  refine g_iinc (w := (y3 + (1 : Int32))) (L' := [(3, .int (y3 + (1 : Int32))), (2, .int (s1 + s0)), (0, .ref 0), (1, .ref a1)]) hX (dc_X12_beginsIn 21 rfl) 3 rfl rfl (by decide) rfl ?_
  refine g_goto (tgt := 4) hX (dc_X12_beginsIn 22 rfl) (by decide) ?_
  exact g_sub [2, 3, 1, 0] rfl (hk4 ((s1 + s0)) ((y3 + (1 : Int32))) )
def b_X12_beginsIn_4 (a1 : Nat) (n1 : Nat)  : Nat → Int32 → Int32 → MS → Option (Int32)
  | 0, _, _, _ => none
  | n + 1, y2, y3, σ => (if (sI σ 1 4) ≤ y3 then some y2 else chk (inb y3 n1) ((if (sI σ a1 (ix y3)) = (-1 : Int32) then (b_X12_beginsIn_27 a1 n1 (b_X12_beginsIn_4 a1 n1 n) (y3) ((1 : Int32)) (y2) σ) else (b_X12_beginsIn_27 a1 n1 (b_X12_beginsIn_4 a1 n1 n) (y3) ((0 : Int32)) (y2) σ))))
set_option maxHeartbeats 4000000 in
set_option maxRecDepth 20000 in
theorem c_X12_beginsIn_4 {X : CX} {Ω : OM} (hX : CF X Ω RX12 cX12_beginsIn 4 (some .int) rm_X12_beginsIn) (hO : OKO Ω) (hΩ : oSH Ω = SHM) (a1 : Nat) (n1 : Nat) (ha1 : (oSH Ω)[a1]? = some (0, n1)) (σ : MS)  : ∀ (n : Nat) (y2 : Int32) (y3 : Int32)  , GE X Ω 4 0 0 (emPI σ) 0 0 4 [(0, .ref 0), (1, .ref a1), (2, .int y2), (3, .int y3)] [] σ (b_X12_beginsIn_4 a1 n1 n y2 y3 σ)
  | 0, _, _ => g_none
  | n + 1, y2, y3 => by
    have hk4 := c_X12_beginsIn_4 hX hO hΩ a1 n1 ha1 σ n
    unfold b_X12_beginsIn_4
    refine g_iload_n hX (dc_X12_beginsIn 4 rfl) rfl 3 rfl ?_
    refine g_aload_n hX (dc_X12_beginsIn 5 rfl) rfl 0 rfl ?_
    refine g_getF (q := 1) hX (dc_X12_beginsIn 6 rfl) fl_X12_9 (by decide) rfl (stS hΩ 0 rfl) rfl ?_
    refine g_iconst (w := (4 : Int32)) hX (dc_X12_beginsIn 7 rfl) (by decide) ?_
    refine g_iald (j := 4) hX (dc_X12_beginsIn 8 rfl) (stS hΩ 1 rfl) (by decide) (by decide) ?_
    refine g_icmp_ge (tgt := 35) hX (dc_X12_beginsIn 9 rfl) (by decide) (fun h4 => ?_) (fun h4 => ?_)
    · refine g_iload_n hX (dc_X12_beginsIn 23 rfl) rfl 2 rfl ?_
      exact g_iret hX (dc_X12_beginsIn 24 rfl) rfl rfl (Nat.le_refl _) (Nat.le_refl _)
    · refine g_iload_n hX (dc_X12_beginsIn 10 rfl) rfl 2 rfl ?_
      refine g_aload_n hX (dc_X12_beginsIn 11 rfl) rfl 1 rfl ?_
      refine g_iload_n hX (dc_X12_beginsIn 12 rfl) rfl 3 rfl ?_
      refine g_chk (fun hc5 => ?_)
      refine g_iald hX (dc_X12_beginsIn 13 rfl) (Or.inl ha1) hc5 rfl ?_
      refine g_iconst (w := (-1 : Int32)) hX (dc_X12_beginsIn 14 rfl) (by decide) ?_
      refine g_icmp_ne (tgt := 26) hX (dc_X12_beginsIn 15 rfl) (by decide) (fun h6 => ?_) (fun h6 => ?_)
      · refine g_iconst (w := (1 : Int32)) hX (dc_X12_beginsIn 16 rfl) (by decide) ?_
        refine g_goto (tgt := 27) hX (dc_X12_beginsIn 17 rfl) (by decide) ?_
        exact g_sub [0, 1, 3] rfl (c_X12_beginsIn_27 hX hO hΩ a1 n1 ha1 σ _ hk4 (y3) ((1 : Int32)) (y2))
      · refine g_iconst (w := (0 : Int32)) hX (dc_X12_beginsIn 18 rfl) (by decide) ?_
        exact g_sub [0, 1, 3] rfl (c_X12_beginsIn_27 hX hO hΩ a1 n1 ha1 σ _ hk4 (y3) ((0 : Int32)) (y2))
def b_X12_beginsIn_0 (a1 : Nat) (n1 : Nat)    (σ : MS) : Option (Int32) := (b_X12_beginsIn_4 a1 n1 FU ((0 : Int32)) ((0 : Int32)) σ)
set_option maxHeartbeats 4000000 in
set_option maxRecDepth 20000 in
theorem c_X12_beginsIn_0 {X : CX} {Ω : OM} (hX : CF X Ω RX12 cX12_beginsIn 4 (some .int) rm_X12_beginsIn) (hO : OKO Ω) (hΩ : oSH Ω = SHM) (a1 : Nat) (n1 : Nat) (ha1 : (oSH Ω)[a1]? = some (0, n1)) (σ : MS)      : GE X Ω 4 0 0 (emPI σ) 0 0 0 [(0, .ref 0), (1, .ref a1)] [] σ (b_X12_beginsIn_0 a1 n1 σ) := by
  unfold b_X12_beginsIn_0
  refine g_iconst (w := (0 : Int32)) hX (dc_X12_beginsIn 0 rfl) (by decide) ?_
  refine g_istore_n (L' := [(2, .int (0 : Int32)), (0, .ref 0), (1, .ref a1)]) hX (dc_X12_beginsIn 1 rfl) rfl (by decide) rfl ?_
  refine g_iconst (w := (0 : Int32)) hX (dc_X12_beginsIn 2 rfl) (by decide) ?_
  refine g_istore_n (L' := [(3, .int (0 : Int32)), (2, .int (0 : Int32)), (0, .ref 0), (1, .ref a1)]) hX (dc_X12_beginsIn 3 rfl) rfl (by decide) rfl ?_
  exact g_sub [2, 3, 1, 0] rfl (c_X12_beginsIn_4 hX hO hΩ a1 n1 ha1 σ FU ((0 : Int32)) ((0 : Int32)))
def f_X12_beginsIn (a1 : Nat) (n1 : Nat) (σ : MS) : Option (Int32) := b_X12_beginsIn_0 a1 n1  σ
theorem con_X12_beginsIn {Ω : OM} (hO : OKO Ω) (hΩ : oSH Ω = SHM) (a1 : Nat) (n1 : Nat) (σ : MS) (ha1 : (oSH Ω)[a1]? = some (0, n1)) : Con Ω yX12_beginsIn cX12_beginsIn 4 (some .int) rm_X12_beginsIn (emPI σ) [.ref 0, .ref a1] σ (f_X12_beginsIn a1 n1 σ) :=
  con_of hO (by decide +kernel) (Nat.le_of_ble_eq_true rfl) rfl (fun X hX _ => c_X12_beginsIn_0 hX hO hΩ a1 n1 ha1 σ )
def it_X12_chains : List (Nat × Instr × Nat × Nat) := [(0, .aload_n 0, 1, 1), (1, .getfield 341, 3, 4), (4, .ifCond .eq 15, 3, 7), (7, .iload_n 1, 1, 8), (8, .i2l, 1, 9), (9, .lconst 0, 1, 10), (10, .ldc2_w 476, 3, 13), (13, .invokestatic 161, 3, 16), (16, .ifCond .ne 6, 3, 19), (19, .bipush (-3), 2, 21), (21, .ireturn, 1, 22), (22, .aload_n 0, 1, 23), (23, .getfield 9, 3, 26), (26, .iconst 4, 1, 27), (27, .iaload, 1, 28), (28, .istore_n 2, 1, 29), (29, .iconst 1, 1, 30), (30, .istore_n 3, 1, 31), (31, .iconst 0, 1, 32), (32, .istore 4, 2, 34), (34, .iload 4, 2, 36), (36, .iload_n 2, 1, 37), (37, .if_icmp .ge 15, 3, 40), (40, .iload_n 3, 1, 41), (41, .iload_n 2, 1, 42), (42, .iconst 1, 1, 43), (43, .iadd, 1, 44), (44, .imul, 1, 45), (45, .istore_n 3, 1, 46), (46, .iinc 4 1, 3, 49), (49, .goto (-15), 3, 52), (52, .bipush 7, 2, 54), (54, .istore 4, 2, 56), (56, .iconst 0, 1, 57), (57, .istore 5, 2, 59), (59, .iload 5, 2, 61), (61, .iload_n 3, 1, 62), (62, .if_icmp .ge 52, 3, 65), (65, .aload_n 0, 1, 66), (66, .iload 5, 2, 68), (68, .invokevirtual 478, 3, 71), (71, .ifCond .eq 37, 3, 74), (74, .aload_n 0, 1, 75), (75, .aload_n 0, 1, 76), (76, .getfield 136, 3, 79), (79, .invokevirtual 481, 3, 82), (82, .iload 4, 2, 84), (84, .if_icmp .ge 24, 3, 87), (87, .aload_n 0, 1, 88), (88, .aload_n 0, 1, 89), (89, .getfield 136, 3, 92), (92, .invokevirtual 481, 3, 95), (95, .istore 4, 2, 97), (97, .aload_n 0, 1, 98), (98, .getfield 136, 3, 101), (101, .aload_n 0, 1, 102), (102, .getfield 139, 3, 105), (105, .invokestatic 334, 3, 108), (108, .iinc 5 1, 3, 111), (111, .goto (-52), 3, 114), (114, .iconst 0, 1, 115), (115, .istore 5, 2, 117), (117, .iconst 0, 1, 118), (118, .istore 6, 2, 120), (120, .iload 6, 2, 122), (122, .iload_n 2, 1, 123), (123, .if_icmp .ge 41, 3, 126), (126, .iload 5, 2, 128), (128, .aload_n 0, 1, 129), (129, .getfield 139, 3, 132), (132, .iload 6, 2, 134), (134, .iaload, 1, 135), (135, .iconst (-1), 1, 136), (136, .if_icmp .ne 18, 3, 139), (139, .aload_n 0, 1, 140), (140, .getfield 13, 3, 143), (143, .aload_n 0, 1, 144), (144, .getfield 31, 3, 147), (147, .iload 6, 2, 149), (149, .iaload, 1, 150), (150, .iaload, 1, 151), (151, .goto 4, 3, 154), (154, .iconst 0, 1, 155), (155, .iadd, 1, 156), (156, .istore 5, 2, 158), (158, .iinc 6 1, 3, 161), (161, .goto (-41), 3, 164), (164, .iload_n 1, 1, 165), (165, .ifCond .ne 8, 3, 168), (168, .iload 4, 2, 170), (170, .goto 33, 3, 173), (173, .iload_n 1, 1, 174), (174, .iconst 1, 1, 175), (175, .if_icmp .ne 8, 3, 178), (178, .iload 5, 2, 180), (180, .goto 23, 3, 183), (183, .iload_n 1, 1, 184), (184, .iconst 2, 1, 185), (185, .isub, 1, 186), (186, .iload_n 2, 1, 187), (187, .if_icmp .ge 14, 3, 190), (190, .aload_n 0, 1, 191), (191, .getfield 139, 3, 194), (194, .iload_n 1, 1, 195), (195, .iconst 2, 1, 196), (196, .isub, 1, 197), (197, .iaload, 1, 198), (198, .goto 5, 3, 201), (201, .bipush (-2), 2, 203), (203, .ireturn, 1, 204)]
theorem id_X12_chains : ∀ q ∈ it_X12_chains, decode cX12_chains q.1 = .ok (q.2.1, q.2.2.1) ∧ q.1 + q.2.2.1 = q.2.2.2 := by decide +kernel
theorem dc_X12_chains {pc : Nat} {i : Instr} {n pc' : Nat} (j : Nat) (h : it_X12_chains[j]? = some (pc, i, n, pc')) : Dc cX12_chains pc i n pc' := dc_of id_X12_chains j h
abbrev rm_X12_chains : Room := { frames := 2, cells := 0, slots := 0, locals := 48 }
def b_X12_chains_203    (s0 : Int32) (σ : MS) : Option (Int32 × MS) := some (s0, σ)
set_option maxHeartbeats 4000000 in
set_option maxRecDepth 20000 in
theorem c_X12_chains_203 {X : CX} {Ω : OM} (hX : CF X Ω RX12 cX12_chains 7 (some .int) rm_X12_chains) (hO : OKO Ω) (hΩ : oSH Ω = SHM)     (s0 : Int32) (σ : MS)  : GE X Ω 7 0 0 (emWI) 0 0 203 [] [.int s0] σ (b_X12_chains_203  s0 σ) := by
  unfold b_X12_chains_203
  exact g_iret hX (dc_X12_chains 109 rfl) rfl rfl (Nat.le_refl _) (Nat.le_refl _)
def b_X12_chains_155  (k120 : Int32 → Int32 → Int32 → Int32 → Int32 → MS → Option (Int32 × MS))  (y1 : Int32) (y2 : Int32) (y4 : Int32) (y6 : Int32) (s0 : Int32) (s1 : Int32) (σ : MS) : Option (Int32 × MS) := (k120 (y1) (y2) (y4) ((s1 + s0)) ((y6 + (1 : Int32))) σ)
set_option maxHeartbeats 4000000 in
set_option maxRecDepth 20000 in
theorem c_X12_chains_155 {X : CX} {Ω : OM} (hX : CF X Ω RX12 cX12_chains 7 (some .int) rm_X12_chains) (hO : OKO Ω) (hΩ : oSH Ω = SHM)   (k120 : Int32 → Int32 → Int32 → Int32 → Int32 → MS → Option (Int32 × MS)) (hk120 : ∀ (y1 : Int32) (y2 : Int32) (y4 : Int32) (y5 : Int32) (y6 : Int32) (σ : MS) , GE X Ω 7 0 0 (emWI) 0 0 120 [(0, .ref 0), (1, .int y1), (2, .int y2), (4, .int y4), (5, .int y5), (6, .int y6)] [] σ (k120 y1 y2 y4 y5 y6 σ))  (y1 : Int32) (y2 : Int32) (y4 : Int32) (y6 : Int32) (s0 : Int32) (s1 : Int32) (σ : MS)  : GE X Ω 7 0 0 (emWI) 0 0 155 [(0, .ref 0), (1, .int y1), (2, .int y2), (4, .int y4), (6, .int y6)] [.int s0, .int s1] σ (b_X12_chains_155  k120 y1 y2 y4 y6 s0 s1 σ) := by
  unfold b_X12_chains_155
  refine g_iadd hX (dc_X12_chains 83 rfl) ?_
  refine g_istore (L' := [(5, .int (s1 + s0)), (0, .ref 0), (1, .int y1), (2, .int y2), (4, .int y4), (6, .int y6)]) hX (dc_X12_chains 84 rfl) (by decide) rfl ?_
  refine g_iinc (w := (y6 + (1 : Int32))) (L' := [(6, .int (y6 + (1 : Int32))), (5, .int (s1 + s0)), (0, .ref 0), (1, .int y1), (2, .int y2), (4, .int y4)]) hX (dc_X12_chains 85 rfl) 5 rfl rfl (by decide) rfl ?_
  refine g_goto (tgt := 120) hX (dc_X12_chains 86 rfl) (by decide) ?_
  exact g_sub [2, 3, 4, 5, 1, 0] rfl (hk120 (y1) (y2) (y4) ((s1 + s0)) ((y6 + (1 : Int32))) σ )
def b_X12_chains_120   : Nat → Int32 → Int32 → Int32 → Int32 → Int32 → MS → Option (Int32 × MS)
  | 0, _, _, _, _, _, _ => none
  | n + 1, y1, y2, y4, y5, y6, σ => (if y2 ≤ y6 then (if y1 = 0 then (b_X12_chains_203 (y4) σ) else (if y1 = (1 : Int32) then (b_X12_chains_203 (y5) σ) else (if y2 ≤ (y1 - (2 : Int32)) then (b_X12_chains_203 ((-2 : Int32)) σ) else chk (inb (y1 - (2 : Int32)) 6) ((b_X12_chains_203 ((sI σ 42 (ix (y1 - (2 : Int32))))) σ))))) else chk (inb y6 6) ((if (sI σ 42 (ix y6)) = (-1 : Int32) then chk (inb y6 6) (chk (inb (sI σ 8 (ix y6)) 5) ((b_X12_chains_155 (b_X12_chains_120  n) (y1) (y2) (y4) (y6) ((sI σ 2 (ix (sI σ 8 (ix y6))))) (y5) σ))) else (b_X12_chains_155 (b_X12_chains_120  n) (y1) (y2) (y4) (y6) ((0 : Int32)) (y5) σ))))
set_option maxHeartbeats 4000000 in
set_option maxRecDepth 20000 in
theorem c_X12_chains_120 {X : CX} {Ω : OM} (hX : CF X Ω RX12 cX12_chains 7 (some .int) rm_X12_chains) (hO : OKO Ω) (hΩ : oSH Ω = SHM)    : ∀ (n : Nat) (y1 : Int32) (y2 : Int32) (y4 : Int32) (y5 : Int32) (y6 : Int32) (σ : MS) , GE X Ω 7 0 0 (emWI) 0 0 120 [(0, .ref 0), (1, .int y1), (2, .int y2), (4, .int y4), (5, .int y5), (6, .int y6)] [] σ (b_X12_chains_120  n y1 y2 y4 y5 y6 σ)
  | 0, _, _, _, _, _, _ => g_none
  | n + 1, y1, y2, y4, y5, y6, σ => by
    have hk120 := c_X12_chains_120 hX hO hΩ  n
    unfold b_X12_chains_120
    refine g_iload hX (dc_X12_chains 64 rfl) 5 rfl ?_
    refine g_iload_n hX (dc_X12_chains 65 rfl) rfl 2 rfl ?_
    refine g_icmp_ge (tgt := 164) hX (dc_X12_chains 66 rfl) (by decide) (fun h21 => ?_) (fun h21 => ?_)
    · refine g_iload_n hX (dc_X12_chains 87 rfl) rfl 1 rfl ?_
      refine g_if_ne (tgt := 173) hX (dc_X12_chains 88 rfl) (by decide) (fun h22 => ?_) (fun h22 => ?_)
      · refine g_iload hX (dc_X12_chains 89 rfl) 3 rfl ?_
        refine g_goto (tgt := 203) hX (dc_X12_chains 90 rfl) (by decide) ?_
        exact g_sub [] rfl (c_X12_chains_203 hX hO hΩ (y4) σ)
      · refine g_iload_n hX (dc_X12_chains 91 rfl) rfl 1 rfl ?_
        refine g_iconst (w := (1 : Int32)) hX (dc_X12_chains 92 rfl) (by decide) ?_
        refine g_icmp_ne (tgt := 183) hX (dc_X12_chains 93 rfl) (by decide) (fun h23 => ?_) (fun h23 => ?_)
        · refine g_iload hX (dc_X12_chains 94 rfl) 4 rfl ?_
          refine g_goto (tgt := 203) hX (dc_X12_chains 95 rfl) (by decide) ?_
          exact g_sub [] rfl (c_X12_chains_203 hX hO hΩ (y5) σ)
        · refine g_iload_n hX (dc_X12_chains 96 rfl) rfl 1 rfl ?_
          refine g_iconst (w := (2 : Int32)) hX (dc_X12_chains 97 rfl) (by decide) ?_
          refine g_isub hX (dc_X12_chains 98 rfl) ?_
          refine g_iload_n hX (dc_X12_chains 99 rfl) rfl 2 rfl ?_
          refine g_icmp_ge (tgt := 201) hX (dc_X12_chains 100 rfl) (by decide) (fun h24 => ?_) (fun h24 => ?_)
          · refine g_bipush (w := (-2 : Int32)) hX (dc_X12_chains 108 rfl) (by decide) ?_
            exact g_sub [] rfl (c_X12_chains_203 hX hO hΩ ((-2 : Int32)) σ)
          · refine g_aload_n hX (dc_X12_chains 101 rfl) rfl 0 rfl ?_
            refine g_getF (q := 42) hX (dc_X12_chains 102 rfl) fl_X12_139 (by decide) rfl (stS hΩ 0 rfl) rfl ?_
            refine g_iload_n hX (dc_X12_chains 103 rfl) rfl 1 rfl ?_
            refine g_iconst (w := (2 : Int32)) hX (dc_X12_chains 104 rfl) (by decide) ?_
            refine g_isub hX (dc_X12_chains 105 rfl) ?_
            refine g_chk (fun hc25 => ?_)
            refine g_iald hX (dc_X12_chains 106 rfl) (stS hΩ 42 rfl) hc25 rfl ?_
            refine g_goto (tgt := 203) hX (dc_X12_chains 107 rfl) (by decide) ?_
            exact g_sub [] rfl (c_X12_chains_203 hX hO hΩ ((sI σ 42 (ix (y1 - (2 : Int32))))) σ)
    · refine g_iload hX (dc_X12_chains 67 rfl) 4 rfl ?_
      refine g_aload_n hX (dc_X12_chains 68 rfl) rfl 0 rfl ?_
      refine g_getF (q := 42) hX (dc_X12_chains 69 rfl) fl_X12_139 (by decide) rfl (stS hΩ 0 rfl) rfl ?_
      refine g_iload hX (dc_X12_chains 70 rfl) 5 rfl ?_
      refine g_chk (fun hc26 => ?_)
      refine g_iald hX (dc_X12_chains 71 rfl) (stS hΩ 42 rfl) hc26 rfl ?_
      refine g_iconst (w := (-1 : Int32)) hX (dc_X12_chains 72 rfl) (by decide) ?_
      refine g_icmp_ne (tgt := 154) hX (dc_X12_chains 73 rfl) (by decide) (fun h27 => ?_) (fun h27 => ?_)
      · refine g_aload_n hX (dc_X12_chains 74 rfl) rfl 0 rfl ?_
        refine g_getF (q := 2) hX (dc_X12_chains 75 rfl) fl_X12_13 (by decide) rfl (stS hΩ 0 rfl) rfl ?_
        refine g_aload_n hX (dc_X12_chains 76 rfl) rfl 0 rfl ?_
        refine g_getF (q := 8) hX (dc_X12_chains 77 rfl) fl_X12_31 (by decide) rfl (stS hΩ 0 rfl) rfl ?_
        refine g_iload hX (dc_X12_chains 78 rfl) 5 rfl ?_
        refine g_chk (fun hc28 => ?_)
        refine g_iald hX (dc_X12_chains 79 rfl) (stS hΩ 8 rfl) hc28 rfl ?_
        refine g_chk (fun hc29 => ?_)
        refine g_iald hX (dc_X12_chains 80 rfl) (stS hΩ 2 rfl) hc29 rfl ?_
        refine g_goto (tgt := 155) hX (dc_X12_chains 81 rfl) (by decide) ?_
        exact g_sub [0, 1, 2, 3, 5] rfl (c_X12_chains_155 hX hO hΩ _ hk120 (y1) (y2) (y4) (y6) ((sI σ 2 (ix (sI σ 8 (ix y6))))) (y5) σ)
      · refine g_iconst (w := (0 : Int32)) hX (dc_X12_chains 82 rfl) (by decide) ?_
        exact g_sub [0, 1, 2, 3, 5] rfl (c_X12_chains_155 hX hO hΩ _ hk120 (y1) (y2) (y4) (y6) ((0 : Int32)) (y5) σ)
def b_X12_chains_108  (k59 : Int32 → Int32 → Int32 → Int32 → Int32 → MS → Option (Int32 × MS))  (y1 : Int32) (y2 : Int32) (y3 : Int32) (y4 : Int32) (y5 : Int32) (σ : MS) : Option (Int32 × MS) := (k59 (y1) (y2) (y3) (y4) ((y5 + (1 : Int32))) σ)
set_option maxHeartbeats 4000000 in
set_option maxRecDepth 20000 in
theorem c_X12_chains_108 {X : CX} {Ω : OM} (hX : CF X Ω RX12 cX12_chains 7 (some .int) rm_X12_chains) (hO : OKO Ω) (hΩ : oSH Ω = SHM)   (k59 : Int32 → Int32 → Int32 → Int32 → Int32 → MS → Option (Int32 × MS)) (hk59 : ∀ (y1 : Int32) (y2 : Int32) (y3 : Int32) (y4 : Int32) (y5 : Int32) (σ : MS) , GE X Ω 7 0 0 (emWI) 0 0 59 [(0, .ref 0), (1, .int y1), (2, .int y2), (3, .int y3), (4, .int y4), (5, .int y5)] [] σ (k59 y1 y2 y3 y4 y5 σ))  (y1 : Int32) (y2 : Int32) (y3 : Int32) (y4 : Int32) (y5 : Int32) (σ : MS)  : GE X Ω 7 0 0 (emWI) 0 0 108 [(0, .ref 0), (1, .int y1), (2, .int y2), (3, .int y3), (4, .int y4), (5, .int y5)] [] σ (b_X12_chains_108  k59 y1 y2 y3 y4 y5 σ) := by
  unfold b_X12_chains_108
  refine g_iinc (w := (y5 + (1 : Int32))) (L' := [(5, .int (y5 + (1 : Int32))), (0, .ref 0), (1, .int y1), (2, .int y2), (3, .int y3), (4, .int y4)]) hX (dc_X12_chains 58 rfl) 5 rfl rfl (by decide) rfl ?_
  refine g_goto (tgt := 59) hX (dc_X12_chains 59 rfl) (by decide) ?_
  exact g_sub [1, 2, 3, 4, 5, 0] rfl (hk59 (y1) (y2) (y3) (y4) ((y5 + (1 : Int32))) σ )
def b_X12_chains_59   : Nat → Int32 → Int32 → Int32 → Int32 → Int32 → MS → Option (Int32 × MS)
  | 0, _, _, _, _, _, _ => none
  | n + 1, y1, y2, y3, y4, y5, σ => (if y3 ≤ y5 then (b_X12_chains_120 FU (y1) (y2) (y4) ((0 : Int32)) ((0 : Int32)) σ) else (f_X12_laysRow y5 σ).bind (fun r31 => (if r31.1 = 0 then (b_X12_chains_108 (b_X12_chains_59  n) (y1) (y2) (y3) (y4) (y5) r31.2) else (f_X12_beginsIn 41 6 r31.2).bind (fun r33 => (if y4 ≤ r33 then (b_X12_chains_108 (b_X12_chains_59  n) (y1) (y2) (y3) (y4) (y5) r31.2) else (f_X12_beginsIn 41 6 r31.2).bind (fun r35 => (f_X12_copies 41 6 42 6 r31.2).bind (fun r36 => (b_X12_chains_108 (b_X12_chains_59  n) (y1) (y2) (y3) (r35) (y5) r36))))))))
set_option maxHeartbeats 4000000 in
set_option maxRecDepth 20000 in
theorem c_X12_chains_59 {X : CX} {Ω : OM} (hX : CF X Ω RX12 cX12_chains 7 (some .int) rm_X12_chains) (hO : OKO Ω) (hΩ : oSH Ω = SHM)    : ∀ (n : Nat) (y1 : Int32) (y2 : Int32) (y3 : Int32) (y4 : Int32) (y5 : Int32) (σ : MS) , GE X Ω 7 0 0 (emWI) 0 0 59 [(0, .ref 0), (1, .int y1), (2, .int y2), (3, .int y3), (4, .int y4), (5, .int y5)] [] σ (b_X12_chains_59  n y1 y2 y3 y4 y5 σ)
  | 0, _, _, _, _, _, _ => g_none
  | n + 1, y1, y2, y3, y4, y5, σ => by
    have hk59 := c_X12_chains_59 hX hO hΩ  n
    unfold b_X12_chains_59
    refine g_iload hX (dc_X12_chains 35 rfl) 5 rfl ?_
    refine g_iload_n hX (dc_X12_chains 36 rfl) rfl 3 rfl ?_
    refine g_icmp_ge (tgt := 114) hX (dc_X12_chains 37 rfl) (by decide) (fun h30 => ?_) (fun h30 => ?_)
    · refine g_iconst (w := (0 : Int32)) hX (dc_X12_chains 60 rfl) (by decide) ?_
      refine g_istore (L' := [(5, .int (0 : Int32)), (0, .ref 0), (1, .int y1), (2, .int y2), (3, .int y3), (4, .int y4)]) hX (dc_X12_chains 61 rfl) (by decide) rfl ?_
      refine g_iconst (w := (0 : Int32)) hX (dc_X12_chains 62 rfl) (by decide) ?_
      refine g_istore (L' := [(6, .int (0 : Int32)), (5, .int (0 : Int32)), (0, .ref 0), (1, .int y1), (2, .int y2), (3, .int y3), (4, .int y4)]) hX (dc_X12_chains 63 rfl) (by decide) rfl ?_
      exact g_sub [2, 3, 4, 6, 1, 0] rfl (c_X12_chains_120 hX hO hΩ FU (y1) (y2) (y4) ((0 : Int32)) ((0 : Int32)) σ)
    · refine g_aload_n hX (dc_X12_chains 38 rfl) rfl 0 rfl ?_
      refine g_iload hX (dc_X12_chains 39 rfl) 5 rfl ?_
      refine gV_WI (As := [.int y5]) (st := []) hX (dc_X12_chains 40 rfl) ml_X12_478 (con_X12_laysRow hO hΩ y5 σ) (stS hΩ 0 rfl) rfl rfl ⟨by decide, by decide⟩ ⟨rfl, rfl⟩ ⟨Nat.zero_le _, Nat.zero_le _⟩ (Nat.le_of_ble_eq_true rfl) (fun r31 _ => ?_)
      refine g_if_eq (tgt := 108) hX (dc_X12_chains 41 rfl) (by decide) (fun h32 => ?_) (fun h32 => ?_)
      · exact g_sub [0, 1, 2, 3, 4, 5] rfl (c_X12_chains_108 hX hO hΩ _ hk59 (y1) (y2) (y3) (y4) (y5) r31.2)
      · refine g_aload_n hX (dc_X12_chains 42 rfl) rfl 0 rfl ?_
        refine g_aload_n hX (dc_X12_chains 43 rfl) rfl 0 rfl ?_
        refine g_getF (q := 41) hX (dc_X12_chains 44 rfl) fl_X12_136 (by decide) rfl (stS hΩ 0 rfl) rfl ?_
        refine gV_PI (As := [.ref 41]) (st := []) hX (dc_X12_chains 45 rfl) ml_X12_481 (con_X12_beginsIn hO hΩ 41 6 r31.2 (by rw [hΩ]; rfl)) (stS hΩ 0 rfl) rfl rfl ⟨by decide, by decide⟩ ⟨rfl, rfl⟩ ⟨Nat.zero_le _, Nat.zero_le _⟩ (Nat.le_of_ble_eq_true rfl) (fun r33 _ => ?_)
        refine g_iload hX (dc_X12_chains 46 rfl) 4 rfl ?_
        refine g_icmp_ge (tgt := 108) hX (dc_X12_chains 47 rfl) (by decide) (fun h34 => ?_) (fun h34 => ?_)
        · exact g_sub [0, 1, 2, 3, 4, 5] rfl (c_X12_chains_108 hX hO hΩ _ hk59 (y1) (y2) (y3) (y4) (y5) r31.2)
        · refine g_aload_n hX (dc_X12_chains 48 rfl) rfl 0 rfl ?_
          refine g_aload_n hX (dc_X12_chains 49 rfl) rfl 0 rfl ?_
          refine g_getF (q := 41) hX (dc_X12_chains 50 rfl) fl_X12_136 (by decide) rfl (stS hΩ 0 rfl) rfl ?_
          refine gV_PI (As := [.ref 41]) (st := []) hX (dc_X12_chains 51 rfl) ml_X12_481 (con_X12_beginsIn hO hΩ 41 6 r31.2 (by rw [hΩ]; rfl)) (stS hΩ 0 rfl) rfl rfl ⟨by decide, by decide⟩ ⟨rfl, rfl⟩ ⟨Nat.zero_le _, Nat.zero_le _⟩ (Nat.le_of_ble_eq_true rfl) (fun r35 _ => ?_)
          refine g_istore (L' := [(4, .int r35), (0, .ref 0), (1, .int y1), (2, .int y2), (3, .int y3), (5, .int y5)]) hX (dc_X12_chains 52 rfl) (by decide) rfl ?_
          refine g_aload_n hX (dc_X12_chains 53 rfl) rfl 1 rfl ?_
          refine g_getF (q := 41) hX (dc_X12_chains 54 rfl) fl_X12_136 (by decide) rfl (stS hΩ 0 rfl) rfl ?_
          refine g_aload_n hX (dc_X12_chains 55 rfl) rfl 1 rfl ?_
          refine g_getF (q := 42) hX (dc_X12_chains 56 rfl) fl_X12_139 (by decide) rfl (stS hΩ 0 rfl) rfl ?_
          refine gS_WV (As := [.ref 41, .ref 42]) (st := []) hX (dc_X12_chains 57 rfl) ml_X12_334 (con_X12_copies hO hΩ 41 6 42 6 r31.2 (by rw [hΩ]; rfl) (by rw [hΩ]; rfl)) rfl rfl ⟨by decide, by decide⟩ ⟨rfl, rfl⟩ ⟨Nat.zero_le _, Nat.zero_le _⟩ (Nat.le_of_ble_eq_true rfl) (fun r36 _ => ?_)
          exact g_sub [1, 2, 3, 4, 0, 5] rfl (c_X12_chains_108 hX hO hΩ _ hk59 (y1) (y2) (y3) (r35) (y5) r36)
def b_X12_chains_34   : Nat → Int32 → Int32 → Int32 → Int32 → MS → Option (Int32 × MS)
  | 0, _, _, _, _, _ => none
  | n + 1, y1, y2, y3, y4, σ => (if y2 ≤ y4 then (b_X12_chains_59 FU (y1) (y2) (y3) ((7 : Int32)) ((0 : Int32)) σ) else ((b_X12_chains_34  n) (y1) (y2) ((y3 * (y2 + (1 : Int32)))) ((y4 + (1 : Int32))) σ))
set_option maxHeartbeats 4000000 in
set_option maxRecDepth 20000 in
theorem c_X12_chains_34 {X : CX} {Ω : OM} (hX : CF X Ω RX12 cX12_chains 7 (some .int) rm_X12_chains) (hO : OKO Ω) (hΩ : oSH Ω = SHM)    : ∀ (n : Nat) (y1 : Int32) (y2 : Int32) (y3 : Int32) (y4 : Int32) (σ : MS) , GE X Ω 7 0 0 (emWI) 0 0 34 [(0, .ref 0), (1, .int y1), (2, .int y2), (3, .int y3), (4, .int y4)] [] σ (b_X12_chains_34  n y1 y2 y3 y4 σ)
  | 0, _, _, _, _, _ => g_none
  | n + 1, y1, y2, y3, y4, σ => by
    have hk34 := c_X12_chains_34 hX hO hΩ  n
    unfold b_X12_chains_34
    refine g_iload hX (dc_X12_chains 20 rfl) 4 rfl ?_
    refine g_iload_n hX (dc_X12_chains 21 rfl) rfl 2 rfl ?_
    refine g_icmp_ge (tgt := 52) hX (dc_X12_chains 22 rfl) (by decide) (fun h37 => ?_) (fun h37 => ?_)
    · refine g_bipush (w := (7 : Int32)) hX (dc_X12_chains 31 rfl) (by decide) ?_
      refine g_istore (L' := [(4, .int (7 : Int32)), (0, .ref 0), (1, .int y1), (2, .int y2), (3, .int y3)]) hX (dc_X12_chains 32 rfl) (by decide) rfl ?_
      refine g_iconst (w := (0 : Int32)) hX (dc_X12_chains 33 rfl) (by decide) ?_
      refine g_istore (L' := [(5, .int (0 : Int32)), (4, .int (7 : Int32)), (0, .ref 0), (1, .int y1), (2, .int y2), (3, .int y3)]) hX (dc_X12_chains 34 rfl) (by decide) rfl ?_
      exact g_sub [2, 3, 4, 5, 1, 0] rfl (c_X12_chains_59 hX hO hΩ FU (y1) (y2) (y3) ((7 : Int32)) ((0 : Int32)) σ)
    · refine g_iload_n hX (dc_X12_chains 23 rfl) rfl 3 rfl ?_
      refine g_iload_n hX (dc_X12_chains 24 rfl) rfl 2 rfl ?_
      refine g_iconst (w := (1 : Int32)) hX (dc_X12_chains 25 rfl) (by decide) ?_
      refine g_iadd hX (dc_X12_chains 26 rfl) ?_
      refine g_imul hX (dc_X12_chains 27 rfl) ?_
      refine g_istore_n (L' := [(3, .int (y3 * (y2 + (1 : Int32)))), (0, .ref 0), (1, .int y1), (2, .int y2), (4, .int y4)]) hX (dc_X12_chains 28 rfl) rfl (by decide) rfl ?_
      refine g_iinc (w := (y4 + (1 : Int32))) (L' := [(4, .int (y4 + (1 : Int32))), (3, .int (y3 * (y2 + (1 : Int32)))), (0, .ref 0), (1, .int y1), (2, .int y2)]) hX (dc_X12_chains 29 rfl) 4 rfl rfl (by decide) rfl ?_
      refine g_goto (tgt := 34) hX (dc_X12_chains 30 rfl) (by decide) ?_
      exact g_sub [2, 3, 4, 1, 0] rfl (hk34 (y1) (y2) ((y3 * (y2 + (1 : Int32)))) ((y4 + (1 : Int32))) σ )
def b_X12_chains_19     (σ : MS) : Option (Int32 × MS) := some ((-3 : Int32), σ)
set_option maxHeartbeats 4000000 in
set_option maxRecDepth 20000 in
theorem c_X12_chains_19 {X : CX} {Ω : OM} (hX : CF X Ω RX12 cX12_chains 7 (some .int) rm_X12_chains) (hO : OKO Ω) (hΩ : oSH Ω = SHM)      (σ : MS)  : GE X Ω 7 0 0 (emWI) 0 0 19 [] [] σ (b_X12_chains_19  σ) := by
  unfold b_X12_chains_19
  refine g_bipush (w := (-3 : Int32)) hX (dc_X12_chains 9 rfl) (by decide) ?_
  exact g_iret hX (dc_X12_chains 10 rfl) rfl rfl (Nat.le_refl _) (Nat.le_refl _)
def b_X12_chains_0   (x1 : Int32)  (σ : MS) : Option (Int32 × MS) := (if (sI σ 0 28) = 0 then (b_X12_chains_19 σ) else (f_X12_in (x1).toInt64 (0 : Int64) (7 : Int64)).bind (fun r39 => (if r39 = 0 then (b_X12_chains_19 σ) else (b_X12_chains_34 FU (x1) ((sI σ 1 4)) ((1 : Int32)) ((0 : Int32)) σ))))
set_option maxHeartbeats 4000000 in
set_option maxRecDepth 20000 in
theorem c_X12_chains_0 {X : CX} {Ω : OM} (hX : CF X Ω RX12 cX12_chains 7 (some .int) rm_X12_chains) (hO : OKO Ω) (hΩ : oSH Ω = SHM)    (x1 : Int32)  (σ : MS)  : GE X Ω 7 0 0 (emWI) 0 0 0 [(0, .ref 0), (1, .int x1)] [] σ (b_X12_chains_0  x1 σ) := by
  unfold b_X12_chains_0
  refine g_aload_n hX (dc_X12_chains 0 rfl) rfl 0 rfl ?_
  refine g_getI hX (dc_X12_chains 1 rfl) fl_X12_341 (by decide) rfl (stS hΩ 0 rfl) ?_
  refine g_if_eq (tgt := 19) hX (dc_X12_chains 2 rfl) (by decide) (fun h38 => ?_) (fun h38 => ?_)
  · exact g_sub [] rfl (c_X12_chains_19 hX hO hΩ σ)
  · refine g_iload_n hX (dc_X12_chains 3 rfl) rfl 1 rfl ?_
    refine g_i2l hX (dc_X12_chains 4 rfl) ?_
    refine g_lconst (w := (0 : Int64)) hX (dc_X12_chains 5 rfl) (by decide) ?_
    refine g_ldc2 hX (dc_X12_chains 6 rfl) wk_X12_476 ?_
    refine gS_PI (As := [.long (x1).toInt64, .long (0 : Int64), .long (7 : Int64)]) (st := []) hX (dc_X12_chains 7 rfl) ml_X12_161 (con_X12_in hO hΩ (x1).toInt64 (0 : Int64) (7 : Int64) σ) rfl rfl ⟨by decide, by decide⟩ ⟨rfl, rfl⟩ ⟨Nat.zero_le _, Nat.zero_le _⟩ (Nat.le_of_ble_eq_true rfl) (fun r39 _ => ?_)
    refine g_if_ne (tgt := 22) hX (dc_X12_chains 8 rfl) (by decide) (fun h40 => ?_) (fun h40 => ?_)
    · exact g_sub [] rfl (c_X12_chains_19 hX hO hΩ σ)
    · refine g_aload_n hX (dc_X12_chains 11 rfl) rfl 0 rfl ?_
      refine g_getF (q := 1) hX (dc_X12_chains 12 rfl) fl_X12_9 (by decide) rfl (stS hΩ 0 rfl) rfl ?_
      refine g_iconst (w := (4 : Int32)) hX (dc_X12_chains 13 rfl) (by decide) ?_
      refine g_iald (j := 4) hX (dc_X12_chains 14 rfl) (stS hΩ 1 rfl) (by decide) (by decide) ?_
      refine g_istore_n (L' := [(2, .int (sI σ 1 4)), (0, .ref 0), (1, .int x1)]) hX (dc_X12_chains 15 rfl) rfl (by decide) rfl ?_
      refine g_iconst (w := (1 : Int32)) hX (dc_X12_chains 16 rfl) (by decide) ?_
      refine g_istore_n (L' := [(3, .int (1 : Int32)), (2, .int (sI σ 1 4)), (0, .ref 0), (1, .int x1)]) hX (dc_X12_chains 17 rfl) rfl (by decide) rfl ?_
      refine g_iconst (w := (0 : Int32)) hX (dc_X12_chains 18 rfl) (by decide) ?_
      refine g_istore (L' := [(4, .int (0 : Int32)), (3, .int (1 : Int32)), (2, .int (sI σ 1 4)), (0, .ref 0), (1, .int x1)]) hX (dc_X12_chains 19 rfl) (by decide) rfl ?_
      exact g_sub [3, 4, 2, 1, 0] rfl (c_X12_chains_34 hX hO hΩ FU (x1) ((sI σ 1 4)) ((1 : Int32)) ((0 : Int32)) σ)
def f_X12_chains (x1 : Int32) (σ : MS) : Option (Int32 × MS) := b_X12_chains_0  x1 σ
theorem con_X12_chains {Ω : OM} (hO : OKO Ω) (hΩ : oSH Ω = SHM) (x1 : Int32) (σ : MS)  : Con Ω yX12_chains cX12_chains 7 (some .int) rm_X12_chains (emWI) [.ref 0, .int x1] σ (f_X12_chains x1 σ) :=
  con_of hO (by decide +kernel) (Nat.le_of_ble_eq_true rfl) rfl (fun X hX _ => c_X12_chains_0 hX hO hΩ   x1 σ )
def it_X12_tariff : List (Nat × Instr × Nat × Nat) := [(0, .aload_n 0, 1, 1), (1, .iload_n 1, 1, 2), (2, .invokevirtual 390, 3, 5), (5, .ifCond .eq 13, 3, 8), (8, .iload_n 2, 1, 9), (9, .i2l, 1, 10), (10, .lconst 0, 1, 11), (11, .lconst 1, 1, 12), (12, .invokestatic 161, 3, 15), (15, .ifCond .ne 5, 3, 18), (18, .iconst (-1), 1, 19), (19, .ireturn, 1, 20), (20, .iconst 0, 1, 21), (21, .istore_n 3, 1, 22), (22, .iconst 0, 1, 23), (23, .istore 4, 2, 25), (25, .iload 4, 2, 27), (27, .aload_n 0, 1, 28), (28, .getfield 9, 3, 31), (31, .iconst 4, 1, 32), (32, .iaload, 1, 33), (33, .if_icmp .ge 39, 3, 36), (36, .iload_n 3, 1, 37), (37, .aload_n 0, 1, 38), (38, .getfield 31, 3, 41), (41, .iload 4, 2, 43), (43, .iaload, 1, 44), (44, .iload_n 1, 1, 45), (45, .if_icmp .ne 18, 3, 48), (48, .aload_n 0, 1, 49), (49, .getfield 34, 3, 52), (52, .iload 4, 2, 54), (54, .iaload, 1, 55), (55, .iconst (-1), 1, 56), (56, .if_icmp .ne 7, 3, 59), (59, .iconst 1, 1, 60), (60, .goto 4, 3, 63), (63, .iconst 0, 1, 64), (64, .iadd, 1, 65), (65, .istore_n 3, 1, 66), (66, .iinc 4 1, 3, 69), (69, .goto (-44), 3, 72), (72, .iconst 0, 1, 73), (73, .istore 4, 2, 75), (75, .iconst 0, 1, 76), (76, .istore 5, 2, 78), (78, .iconst 0, 1, 79), (79, .istore 6, 2, 81), (81, .iload 6, 2, 83), (83, .bipush 99, 2, 85), (85, .if_icmp .gt 103, 3, 88), (88, .iconst 0, 1, 89), (89, .istore 7, 2, 91), (91, .iconst 0, 1, 92), (92, .istore 8, 2, 94), (94, .iload 8, 2, 96), (96, .aload_n 0, 1, 97), (97, .getfield 9, 3, 100), (100, .iconst 3, 1, 101), (101, .iaload, 1, 102), (102, .if_icmp .ge 31, 3, 105), (105, .iload 7, 2, 107), (107, .aload_n 0, 1, 108), (108, .getfield 19, 3, 111), (111, .iload 8, 2, 113), (113, .iaload, 1, 114), (114, .iload 6, 2, 116), (116, .if_icmp .lt 7, 3, 119), (119, .iconst 1, 1, 120), (120, .goto 4, 3, 123), (123, .iconst 0, 1, 124), (124, .iadd, 1, 125), (125, .istore 7, 2, 127), (127, .iinc 8 1, 3, 130), (130, .goto (-36), 3, 133), (133, .iload 6, 2, 135), (135, .iload 7, 2, 137), (137, .iload_n 3, 1, 138), (138, .if_icmp .ge 8, 3, 141), (141, .iload 7, 2, 143), (143, .goto 4, 3, 146), (146, .iload_n 3, 1, 147), (147, .imul, 1, 148), (148, .istore 8, 2, 150), (150, .iload 8, 2, 152), (152, .iload 5, 2, 154), (154, .if_icmp .le 8, 3, 157), (157, .iload 6, 2, 159), (159, .goto 5, 3, 162), (162, .iload 4, 2, 164), (164, .istore 4, 2, 166), (166, .iload 8, 2, 168), (168, .iload 5, 2, 170), (170, .if_icmp .le 8, 3, 173), (173, .iload 8, 2, 175), (175, .goto 5, 3, 178), (178, .iload 5, 2, 180), (180, .istore 5, 2, 182), (182, .iinc 6 1, 3, 185), (185, .goto (-104), 3, 188), (188, .iload_n 2, 1, 189), (189, .ifCond .ne 8, 3, 192), (192, .iload 4, 2, 194), (194, .goto 5, 3, 197), (197, .iload 5, 2, 199), (199, .ireturn, 1, 200)]
theorem id_X12_tariff : ∀ q ∈ it_X12_tariff, decode cX12_tariff q.1 = .ok (q.2.1, q.2.2.1) ∧ q.1 + q.2.2.1 = q.2.2.2 := by decide +kernel
theorem dc_X12_tariff {pc : Nat} {i : Instr} {n pc' : Nat} (j : Nat) (h : it_X12_tariff[j]? = some (pc, i, n, pc')) : Dc cX12_tariff pc i n pc' := dc_of id_X12_tariff j h
abbrev rm_X12_tariff : Room := { frames := 2, cells := 0, slots := 0, locals := 46 }
def b_X12_tariff_199    (s0 : Int32) (σ : MS) : Option (Int32) := some s0
set_option maxHeartbeats 4000000 in
set_option maxRecDepth 20000 in
theorem c_X12_tariff_199 {X : CX} {Ω : OM} (hX : CF X Ω RX12 cX12_tariff 9 (some .int) rm_X12_tariff) (hO : OKO Ω) (hΩ : oSH Ω = SHM)   (σ : MS)   (s0 : Int32)   : GE X Ω 9 0 0 (emPI σ) 0 0 199 [] [.int s0] σ (b_X12_tariff_199  s0 σ) := by
  unfold b_X12_tariff_199
  exact g_iret hX (dc_X12_tariff 105 rfl) rfl rfl (Nat.le_refl _) (Nat.le_refl _)
def b_X12_tariff_180  (k81 : Int32 → Int32 → Int32 → Int32 → Int32 → MS → Option (Int32))  (y2 : Int32) (y3 : Int32) (y4 : Int32) (y6 : Int32) (s0 : Int32) (σ : MS) : Option (Int32) := (k81 (y2) (y3) (y4) (s0) ((y6 + (1 : Int32))) σ)
set_option maxHeartbeats 4000000 in
set_option maxRecDepth 20000 in
theorem c_X12_tariff_180 {X : CX} {Ω : OM} (hX : CF X Ω RX12 cX12_tariff 9 (some .int) rm_X12_tariff) (hO : OKO Ω) (hΩ : oSH Ω = SHM)   (σ : MS) (k81 : Int32 → Int32 → Int32 → Int32 → Int32 → MS → Option (Int32)) (hk81 : ∀ (y2 : Int32) (y3 : Int32) (y4 : Int32) (y5 : Int32) (y6 : Int32), GE X Ω 9 0 0 (emPI σ) 0 0 81 [(0, .ref 0), (2, .int y2), (3, .int y3), (4, .int y4), (5, .int y5), (6, .int y6)] [] σ (k81 y2 y3 y4 y5 y6 σ))  (y2 : Int32) (y3 : Int32) (y4 : Int32) (y6 : Int32) (s0 : Int32)   : GE X Ω 9 0 0 (emPI σ) 0 0 180 [(0, .ref 0), (2, .int y2), (3, .int y3), (4, .int y4), (6, .int y6)] [.int s0] σ (b_X12_tariff_180  k81 y2 y3 y4 y6 s0 σ) := by
  unfold b_X12_tariff_180
  refine g_istore (L' := [(5, .int s0), (0, .ref 0), (2, .int y2), (3, .int y3), (4, .int y4), (6, .int y6)]) hX (dc_X12_tariff 97 rfl) (by decide) rfl ?_
  refine g_iinc (w := (y6 + (1 : Int32))) (L' := [(6, .int (y6 + (1 : Int32))), (5, .int s0), (0, .ref 0), (2, .int y2), (3, .int y3), (4, .int y4)]) hX (dc_X12_tariff 98 rfl) 5 rfl rfl (by decide) rfl ?_
  refine g_goto (tgt := 81) hX (dc_X12_tariff 99 rfl) (by decide) ?_
  exact g_sub [2, 3, 4, 5, 1, 0] rfl (hk81 (y2) (y3) (y4) (s0) ((y6 + (1 : Int32))) )
def b_X12_tariff_164  (k81 : Int32 → Int32 → Int32 → Int32 → Int32 → MS → Option (Int32))  (y2 : Int32) (y3 : Int32) (y5 : Int32) (y6 : Int32) (y8 : Int32) (s0 : Int32) (σ : MS) : Option (Int32) := (if y8 ≤ y5 then (b_X12_tariff_180 k81 (y2) (y3) (s0) (y6) (y5) σ) else (b_X12_tariff_180 k81 (y2) (y3) (s0) (y6) (y8) σ))
set_option maxHeartbeats 4000000 in
set_option maxRecDepth 20000 in
theorem c_X12_tariff_164 {X : CX} {Ω : OM} (hX : CF X Ω RX12 cX12_tariff 9 (some .int) rm_X12_tariff) (hO : OKO Ω) (hΩ : oSH Ω = SHM)   (σ : MS) (k81 : Int32 → Int32 → Int32 → Int32 → Int32 → MS → Option (Int32)) (hk81 : ∀ (y2 : Int32) (y3 : Int32) (y4 : Int32) (y5 : Int32) (y6 : Int32), GE X Ω 9 0 0 (emPI σ) 0 0 81 [(0, .ref 0), (2, .int y2), (3, .int y3), (4, .int y4), (5, .int y5), (6, .int y6)] [] σ (k81 y2 y3 y4 y5 y6 σ))  (y2 : Int32) (y3 : Int32) (y5 : Int32) (y6 : Int32) (y8 : Int32) (s0 : Int32)   : GE X Ω 9 0 0 (emPI σ) 0 0 164 [(0, .ref 0), (2, .int y2), (3, .int y3), (5, .int y5), (6, .int y6), (8, .int y8)] [.int s0] σ (b_X12_tariff_164  k81 y2 y3 y5 y6 y8 s0 σ) := by
  unfold b_X12_tariff_164
  refine g_istore (L' := [(4, .int s0), (0, .ref 0), (2, .int y2), (3, .int y3), (5, .int y5), (6, .int y6), (8, .int y8)]) hX (dc_X12_tariff 90 rfl) (by decide) rfl ?_
  refine g_iload hX (dc_X12_tariff 91 rfl) 6 rfl ?_
  refine g_iload hX (dc_X12_tariff 92 rfl) 4 rfl ?_
  refine g_icmp_le (tgt := 178) hX (dc_X12_tariff 93 rfl) (by decide) (fun h18 => ?_) (fun h18 => ?_)
  · refine g_iload hX (dc_X12_tariff 96 rfl) 4 rfl ?_
    exact g_sub [1, 2, 3, 0, 5] rfl (c_X12_tariff_180 hX hO hΩ σ _ hk81 (y2) (y3) (s0) (y6) (y5))
  · refine g_iload hX (dc_X12_tariff 94 rfl) 6 rfl ?_
    refine g_goto (tgt := 180) hX (dc_X12_tariff 95 rfl) (by decide) ?_
    exact g_sub [1, 2, 3, 0, 5] rfl (c_X12_tariff_180 hX hO hΩ σ _ hk81 (y2) (y3) (s0) (y6) (y8))
def b_X12_tariff_147  (k81 : Int32 → Int32 → Int32 → Int32 → Int32 → MS → Option (Int32))  (y2 : Int32) (y3 : Int32) (y4 : Int32) (y5 : Int32) (y6 : Int32) (s0 : Int32) (s1 : Int32) (σ : MS) : Option (Int32) := (if (s1 * s0) ≤ y5 then (b_X12_tariff_164 k81 (y2) (y3) (y5) (y6) ((s1 * s0)) (y4) σ) else (b_X12_tariff_164 k81 (y2) (y3) (y5) (y6) ((s1 * s0)) (y6) σ))
set_option maxHeartbeats 4000000 in
set_option maxRecDepth 20000 in
theorem c_X12_tariff_147 {X : CX} {Ω : OM} (hX : CF X Ω RX12 cX12_tariff 9 (some .int) rm_X12_tariff) (hO : OKO Ω) (hΩ : oSH Ω = SHM)   (σ : MS) (k81 : Int32 → Int32 → Int32 → Int32 → Int32 → MS → Option (Int32)) (hk81 : ∀ (y2 : Int32) (y3 : Int32) (y4 : Int32) (y5 : Int32) (y6 : Int32), GE X Ω 9 0 0 (emPI σ) 0 0 81 [(0, .ref 0), (2, .int y2), (3, .int y3), (4, .int y4), (5, .int y5), (6, .int y6)] [] σ (k81 y2 y3 y4 y5 y6 σ))  (y2 : Int32) (y3 : Int32) (y4 : Int32) (y5 : Int32) (y6 : Int32) (s0 : Int32) (s1 : Int32)   : GE X Ω 9 0 0 (emPI σ) 0 0 147 [(0, .ref 0), (2, .int y2), (3, .int y3), (4, .int y4), (5, .int y5), (6, .int y6)] [.int s0, .int s1] σ (b_X12_tariff_147  k81 y2 y3 y4 y5 y6 s0 s1 σ) := by
  unfold b_X12_tariff_147
  refine g_imul hX (dc_X12_tariff 82 rfl) ?_
  refine g_istore (L' := [(8, .int (s1 * s0)), (0, .ref 0), (2, .int y2), (3, .int y3), (4, .int y4), (5, .int y5), (6, .int y6)]) hX (dc_X12_tariff 83 rfl) (by decide) rfl ?_
  refine g_iload hX (dc_X12_tariff 84 rfl) 0 rfl ?_
  refine g_iload hX (dc_X12_tariff 85 rfl) 5 rfl ?_
  refine g_icmp_le (tgt := 162) hX (dc_X12_tariff 86 rfl) (by decide) (fun h19 => ?_) (fun h19 => ?_)
  · refine g_iload hX (dc_X12_tariff 89 rfl) 4 rfl ?_
    exact g_sub [1, 2, 3, 5, 6, 0] rfl (c_X12_tariff_164 hX hO hΩ σ _ hk81 (y2) (y3) (y5) (y6) ((s1 * s0)) (y4))
  · refine g_iload hX (dc_X12_tariff 87 rfl) 6 rfl ?_
    refine g_goto (tgt := 164) hX (dc_X12_tariff 88 rfl) (by decide) ?_
    exact g_sub [1, 2, 3, 5, 6, 0] rfl (c_X12_tariff_164 hX hO hΩ σ _ hk81 (y2) (y3) (y5) (y6) ((s1 * s0)) (y6))
def b_X12_tariff_124  (k81 : Int32 → Int32 → Int32 → Int32 → Int32 → MS → Option (Int32)) (k94 : Int32 → Int32 → Int32 → Int32 → Int32 → Int32 → Int32 → MS → Option (Int32))  (y2 : Int32) (y3 : Int32) (y4 : Int32) (y5 : Int32) (y6 : Int32) (y8 : Int32) (s0 : Int32) (s1 : Int32) (σ : MS) : Option (Int32) := (k94 (y2) (y3) (y4) (y5) (y6) ((s1 + s0)) ((y8 + (1 : Int32))) σ)
set_option maxHeartbeats 4000000 in
set_option maxRecDepth 20000 in
theorem c_X12_tariff_124 {X : CX} {Ω : OM} (hX : CF X Ω RX12 cX12_tariff 9 (some .int) rm_X12_tariff) (hO : OKO Ω) (hΩ : oSH Ω = SHM)   (σ : MS) (k81 : Int32 → Int32 → Int32 → Int32 → Int32 → MS → Option (Int32)) (hk81 : ∀ (y2 : Int32) (y3 : Int32) (y4 : Int32) (y5 : Int32) (y6 : Int32), GE X Ω 9 0 0 (emPI σ) 0 0 81 [(0, .ref 0), (2, .int y2), (3, .int y3), (4, .int y4), (5, .int y5), (6, .int y6)] [] σ (k81 y2 y3 y4 y5 y6 σ)) (k94 : Int32 → Int32 → Int32 → Int32 → Int32 → Int32 → Int32 → MS → Option (Int32)) (hk94 : ∀ (y2 : Int32) (y3 : Int32) (y4 : Int32) (y5 : Int32) (y6 : Int32) (y7 : Int32) (y8 : Int32), GE X Ω 9 0 0 (emPI σ) 0 0 94 [(0, .ref 0), (2, .int y2), (3, .int y3), (4, .int y4), (5, .int y5), (6, .int y6), (7, .int y7), (8, .int y8)] [] σ (k94 y2 y3 y4 y5 y6 y7 y8 σ))  (y2 : Int32) (y3 : Int32) (y4 : Int32) (y5 : Int32) (y6 : Int32) (y8 : Int32) (s0 : Int32) (s1 : Int32)   : GE X Ω 9 0 0 (emPI σ) 0 0 124 [(0, .ref 0), (2, .int y2), (3, .int y3), (4, .int y4), (5, .int y5), (6, .int y6), (8, .int y8)] [.int s0, .int s1] σ (b_X12_tariff_124  k81 k94 y2 y3 y4 y5 y6 y8 s0 s1 σ) := by
  unfold b_X12_tariff_124
  refine g_iadd hX (dc_X12_tariff 71 rfl) ?_
  refine g_istore (L' := [(7, .int (s1 + s0)), (0, .ref 0), (2, .int y2), (3, .int y3), (4, .int y4), (5, .int y5), (6, .int y6), (8, .int y8)]) hX (dc_X12_tariff 72 rfl) (by decide) rfl ?_
  refine g_iinc (w := (y8 + (1 : Int32))) (L' := [(8, .int (y8 + (1 : Int32))), (7, .int (s1 + s0)), (0, .ref 0), (2, .int y2), (3, .int y3), (4, .int y4), (5, .int y5), (6, .int y6)]) hX (dc_X12_tariff 73 rfl) 7 rfl rfl (by decide) rfl ?_
  refine g_goto (tgt := 94) hX (dc_X12_tariff 74 rfl) (by decide) ?_
  exact g_sub [2, 3, 4, 5, 6, 7, 1, 0] rfl (hk94 (y2) (y3) (y4) (y5) (y6) ((s1 + s0)) ((y8 + (1 : Int32))) )
def b_X12_tariff_94  (k81 : Int32 → Int32 → Int32 → Int32 → Int32 → MS → Option (Int32)) : Nat → Int32 → Int32 → Int32 → Int32 → Int32 → Int32 → Int32 → MS → Option (Int32)
  | 0, _, _, _, _, _, _, _, _ => none
  | n + 1, y2, y3, y4, y5, y6, y7, y8, σ => (if (sI σ 1 3) ≤ y8 then (if y3 ≤ y7 then (b_X12_tariff_147 k81 (y2) (y3) (y4) (y5) (y6) (y3) (y6) σ) else (b_X12_tariff_147 k81 (y2) (y3) (y4) (y5) (y6) (y7) (y6) σ)) else chk (inb y8 4) ((if (sI σ 4 (ix y8)) < y6 then (b_X12_tariff_124 k81 (b_X12_tariff_94  k81 n) (y2) (y3) (y4) (y5) (y6) (y8) ((0 : Int32)) (y7) σ) else (b_X12_tariff_124 k81 (b_X12_tariff_94  k81 n) (y2) (y3) (y4) (y5) (y6) (y8) ((1 : Int32)) (y7) σ))))
set_option maxHeartbeats 4000000 in
set_option maxRecDepth 20000 in
theorem c_X12_tariff_94 {X : CX} {Ω : OM} (hX : CF X Ω RX12 cX12_tariff 9 (some .int) rm_X12_tariff) (hO : OKO Ω) (hΩ : oSH Ω = SHM)   (σ : MS) (k81 : Int32 → Int32 → Int32 → Int32 → Int32 → MS → Option (Int32)) (hk81 : ∀ (y2 : Int32) (y3 : Int32) (y4 : Int32) (y5 : Int32) (y6 : Int32), GE X Ω 9 0 0 (emPI σ) 0 0 81 [(0, .ref 0), (2, .int y2), (3, .int y3), (4, .int y4), (5, .int y5), (6, .int y6)] [] σ (k81 y2 y3 y4 y5 y6 σ)) : ∀ (n : Nat) (y2 : Int32) (y3 : Int32) (y4 : Int32) (y5 : Int32) (y6 : Int32) (y7 : Int32) (y8 : Int32)  , GE X Ω 9 0 0 (emPI σ) 0 0 94 [(0, .ref 0), (2, .int y2), (3, .int y3), (4, .int y4), (5, .int y5), (6, .int y6), (7, .int y7), (8, .int y8)] [] σ (b_X12_tariff_94  k81 n y2 y3 y4 y5 y6 y7 y8 σ)
  | 0, _, _, _, _, _, _, _ => g_none
  | n + 1, y2, y3, y4, y5, y6, y7, y8 => by
    have hk94 := c_X12_tariff_94 hX hO hΩ  σ k81 hk81 n
    unfold b_X12_tariff_94
    refine g_iload hX (dc_X12_tariff 55 rfl) 7 rfl ?_
    refine g_aload_n hX (dc_X12_tariff 56 rfl) rfl 0 rfl ?_
    refine g_getF (q := 1) hX (dc_X12_tariff 57 rfl) fl_X12_9 (by decide) rfl (stS hΩ 0 rfl) rfl ?_
    refine g_iconst (w := (3 : Int32)) hX (dc_X12_tariff 58 rfl) (by decide) ?_
    refine g_iald (j := 3) hX (dc_X12_tariff 59 rfl) (stS hΩ 1 rfl) (by decide) (by decide) ?_
    refine g_icmp_ge (tgt := 133) hX (dc_X12_tariff 60 rfl) (by decide) (fun h20 => ?_) (fun h20 => ?_)
    · refine g_iload hX (dc_X12_tariff 75 rfl) 5 rfl ?_
      refine g_iload hX (dc_X12_tariff 76 rfl) 6 rfl ?_
      refine g_iload_n hX (dc_X12_tariff 77 rfl) rfl 2 rfl ?_
      refine g_icmp_ge (tgt := 146) hX (dc_X12_tariff 78 rfl) (by decide) (fun h21 => ?_) (fun h21 => ?_)
      · refine g_iload_n hX (dc_X12_tariff 81 rfl) rfl 2 rfl ?_
        exact g_sub [0, 1, 2, 3, 4, 5] rfl (c_X12_tariff_147 hX hO hΩ σ _ hk81 (y2) (y3) (y4) (y5) (y6) (y3) (y6))
      · refine g_iload hX (dc_X12_tariff 79 rfl) 6 rfl ?_
        refine g_goto (tgt := 147) hX (dc_X12_tariff 80 rfl) (by decide) ?_
        exact g_sub [0, 1, 2, 3, 4, 5] rfl (c_X12_tariff_147 hX hO hΩ σ _ hk81 (y2) (y3) (y4) (y5) (y6) (y7) (y6))
    · refine g_iload hX (dc_X12_tariff 61 rfl) 6 rfl ?_
      refine g_aload_n hX (dc_X12_tariff 62 rfl) rfl 0 rfl ?_
      refine g_getF (q := 4) hX (dc_X12_tariff 63 rfl) fl_X12_19 (by decide) rfl (stS hΩ 0 rfl) rfl ?_
      refine g_iload hX (dc_X12_tariff 64 rfl) 7 rfl ?_
      refine g_chk (fun hc22 => ?_)
      refine g_iald hX (dc_X12_tariff 65 rfl) (stS hΩ 4 rfl) hc22 rfl ?_
      refine g_iload hX (dc_X12_tariff 66 rfl) 5 rfl ?_
      refine g_icmp_lt (tgt := 123) hX (dc_X12_tariff 67 rfl) (by decide) (fun h23 => ?_) (fun h23 => ?_)
      · refine g_iconst (w := (0 : Int32)) hX (dc_X12_tariff 70 rfl) (by decide) ?_
        exact g_sub [0, 1, 2, 3, 4, 5, 7] rfl (c_X12_tariff_124 hX hO hΩ σ _ hk81 _ hk94 (y2) (y3) (y4) (y5) (y6) (y8) ((0 : Int32)) (y7))
      · refine g_iconst (w := (1 : Int32)) hX (dc_X12_tariff 68 rfl) (by decide) ?_
        refine g_goto (tgt := 124) hX (dc_X12_tariff 69 rfl) (by decide) ?_
        exact g_sub [0, 1, 2, 3, 4, 5, 7] rfl (c_X12_tariff_124 hX hO hΩ σ _ hk81 _ hk94 (y2) (y3) (y4) (y5) (y6) (y8) ((1 : Int32)) (y7))
def b_X12_tariff_81   : Nat → Int32 → Int32 → Int32 → Int32 → Int32 → MS → Option (Int32)
  | 0, _, _, _, _, _, _ => none
  | n + 1, y2, y3, y4, y5, y6, σ => (if (99 : Int32) < y6 then (if y2 = 0 then (b_X12_tariff_199 (y4) σ) else (b_X12_tariff_199 (y5) σ)) else (b_X12_tariff_94 (b_X12_tariff_81  n) FU (y2) (y3) (y4) (y5) (y6) ((0 : Int32)) ((0 : Int32)) σ))
set_option maxHeartbeats 4000000 in
set_option maxRecDepth 20000 in
theorem c_X12_tariff_81 {X : CX} {Ω : OM} (hX : CF X Ω RX12 cX12_tariff 9 (some .int) rm_X12_tariff) (hO : OKO Ω) (hΩ : oSH Ω = SHM)   (σ : MS)  : ∀ (n : Nat) (y2 : Int32) (y3 : Int32) (y4 : Int32) (y5 : Int32) (y6 : Int32)  , GE X Ω 9 0 0 (emPI σ) 0 0 81 [(0, .ref 0), (2, .int y2), (3, .int y3), (4, .int y4), (5, .int y5), (6, .int y6)] [] σ (b_X12_tariff_81  n y2 y3 y4 y5 y6 σ)
  | 0, _, _, _, _, _ => g_none
  | n + 1, y2, y3, y4, y5, y6 => by
    have hk81 := c_X12_tariff_81 hX hO hΩ  σ n
    unfold b_X12_tariff_81
    refine g_iload hX (dc_X12_tariff 48 rfl) 5 rfl ?_
    refine g_bipush (w := (99 : Int32)) hX (dc_X12_tariff 49 rfl) (by decide) ?_
    refine g_icmp_gt (tgt := 188) hX (dc_X12_tariff 50 rfl) (by decide) (fun h24 => ?_) (fun h24 => ?_)
    · refine g_iload_n hX (dc_X12_tariff 100 rfl) rfl 1 rfl ?_
      refine g_if_ne (tgt := 197) hX (dc_X12_tariff 101 rfl) (by decide) (fun h25 => ?_) (fun h25 => ?_)
      · refine g_iload hX (dc_X12_tariff 102 rfl) 3 rfl ?_
        refine g_goto (tgt := 199) hX (dc_X12_tariff 103 rfl) (by decide) ?_
        exact g_sub [] rfl (c_X12_tariff_199 hX hO hΩ σ (y4))
      · refine g_iload hX (dc_X12_tariff 104 rfl) 4 rfl ?_
        exact g_sub [] rfl (c_X12_tariff_199 hX hO hΩ σ (y5))
    · refine g_iconst (w := (0 : Int32)) hX (dc_X12_tariff 51 rfl) (by decide) ?_
      refine g_istore (L' := [(7, .int (0 : Int32)), (0, .ref 0), (2, .int y2), (3, .int y3), (4, .int y4), (5, .int y5), (6, .int y6)]) hX (dc_X12_tariff 52 rfl) (by decide) rfl ?_
      refine g_iconst (w := (0 : Int32)) hX (dc_X12_tariff 53 rfl) (by decide) ?_
      refine g_istore (L' := [(8, .int (0 : Int32)), (7, .int (0 : Int32)), (0, .ref 0), (2, .int y2), (3, .int y3), (4, .int y4), (5, .int y5), (6, .int y6)]) hX (dc_X12_tariff 54 rfl) (by decide) rfl ?_
      exact g_sub [2, 3, 4, 5, 6, 7, 1, 0] rfl (c_X12_tariff_94 hX hO hΩ σ _ hk81 FU (y2) (y3) (y4) (y5) (y6) ((0 : Int32)) ((0 : Int32)))
def b_X12_tariff_64  (k25 : Int32 → Int32 → Int32 → Int32 → MS → Option (Int32))  (y1 : Int32) (y2 : Int32) (y4 : Int32) (s0 : Int32) (s1 : Int32) (σ : MS) : Option (Int32) := (k25 (y1) (y2) ((s1 + s0)) ((y4 + (1 : Int32))) σ)
set_option maxHeartbeats 4000000 in
set_option maxRecDepth 20000 in
theorem c_X12_tariff_64 {X : CX} {Ω : OM} (hX : CF X Ω RX12 cX12_tariff 9 (some .int) rm_X12_tariff) (hO : OKO Ω) (hΩ : oSH Ω = SHM)   (σ : MS) (k25 : Int32 → Int32 → Int32 → Int32 → MS → Option (Int32)) (hk25 : ∀ (y1 : Int32) (y2 : Int32) (y3 : Int32) (y4 : Int32), GE X Ω 9 0 0 (emPI σ) 0 0 25 [(0, .ref 0), (1, .int y1), (2, .int y2), (3, .int y3), (4, .int y4)] [] σ (k25 y1 y2 y3 y4 σ))  (y1 : Int32) (y2 : Int32) (y4 : Int32) (s0 : Int32) (s1 : Int32)   : GE X Ω 9 0 0 (emPI σ) 0 0 64 [(0, .ref 0), (1, .int y1), (2, .int y2), (4, .int y4)] [.int s0, .int s1] σ (b_X12_tariff_64  k25 y1 y2 y4 s0 s1 σ) := by
  unfold b_X12_tariff_64
  refine g_iadd hX (dc_X12_tariff 38 rfl) ?_
  refine g_istore_n (L' := [(3, .int (s1 + s0)), (0, .ref 0), (1, .int y1), (2, .int y2), (4, .int y4)]) hX (dc_X12_tariff 39 rfl) rfl (by decide) rfl ?_
  refine g_iinc (w := (y4 + (1 : Int32))) (L' := [(4, .int (y4 + (1 : Int32))), (3, .int (s1 + s0)), (0, .ref 0), (1, .int y1), (2, .int y2)]) hX (dc_X12_tariff 40 rfl) 4 rfl rfl (by decide) rfl ?_
  refine g_goto (tgt := 25) hX (dc_X12_tariff 41 rfl) (by decide) ?_
  exact g_sub [2, 3, 4, 1, 0] rfl (hk25 (y1) (y2) ((s1 + s0)) ((y4 + (1 : Int32))) )
def b_X12_tariff_63  (k25 : Int32 → Int32 → Int32 → Int32 → MS → Option (Int32))  (y1 : Int32) (y2 : Int32) (y4 : Int32) (s0 : Int32) (σ : MS) : Option (Int32) := (b_X12_tariff_64 k25 (y1) (y2) (y4) ((0 : Int32)) (s0) σ)
set_option maxHeartbeats 4000000 in
set_option maxRecDepth 20000 in
theorem c_X12_tariff_63 {X : CX} {Ω : OM} (hX : CF X Ω RX12 cX12_tariff 9 (some .int) rm_X12_tariff) (hO : OKO Ω) (hΩ : oSH Ω = SHM)   (σ : MS) (k25 : Int32 → Int32 → Int32 → Int32 → MS → Option (Int32)) (hk25 : ∀ (y1 : Int32) (y2 : Int32) (y3 : Int32) (y4 : Int32), GE X Ω 9 0 0 (emPI σ) 0 0 25 [(0, .ref 0), (1, .int y1), (2, .int y2), (3, .int y3), (4, .int y4)] [] σ (k25 y1 y2 y3 y4 σ))  (y1 : Int32) (y2 : Int32) (y4 : Int32) (s0 : Int32)   : GE X Ω 9 0 0 (emPI σ) 0 0 63 [(0, .ref 0), (1, .int y1), (2, .int y2), (4, .int y4)] [.int s0] σ (b_X12_tariff_63  k25 y1 y2 y4 s0 σ) := by
  unfold b_X12_tariff_63
  refine g_iconst (w := (0 : Int32)) hX (dc_X12_tariff 37 rfl) (by decide) ?_
  exact g_sub [0, 1, 2, 3] rfl (c_X12_tariff_64 hX hO hΩ σ _ hk25 (y1) (y2) (y4) ((0 : Int32)) (s0))
def b_X12_tariff_25   : Nat → Int32 → Int32 → Int32 → Int32 → MS → Option (Int32)
  | 0, _, _, _, _, _ => none
  | n + 1, y1, y2, y3, y4, σ => (if (sI σ 1 4) ≤ y4 then (b_X12_tariff_81 FU (y2) (y3) ((0 : Int32)) ((0 : Int32)) ((0 : Int32)) σ) else chk (inb y4 6) ((if (sI σ 8 (ix y4)) = y1 then chk (inb y4 6) ((if (sI σ 9 (ix y4)) = (-1 : Int32) then (b_X12_tariff_64 (b_X12_tariff_25  n) (y1) (y2) (y4) ((1 : Int32)) (y3) σ) else (b_X12_tariff_63 (b_X12_tariff_25  n) (y1) (y2) (y4) (y3) σ))) else (b_X12_tariff_63 (b_X12_tariff_25  n) (y1) (y2) (y4) (y3) σ))))
set_option maxHeartbeats 4000000 in
set_option maxRecDepth 20000 in
theorem c_X12_tariff_25 {X : CX} {Ω : OM} (hX : CF X Ω RX12 cX12_tariff 9 (some .int) rm_X12_tariff) (hO : OKO Ω) (hΩ : oSH Ω = SHM)   (σ : MS)  : ∀ (n : Nat) (y1 : Int32) (y2 : Int32) (y3 : Int32) (y4 : Int32)  , GE X Ω 9 0 0 (emPI σ) 0 0 25 [(0, .ref 0), (1, .int y1), (2, .int y2), (3, .int y3), (4, .int y4)] [] σ (b_X12_tariff_25  n y1 y2 y3 y4 σ)
  | 0, _, _, _, _ => g_none
  | n + 1, y1, y2, y3, y4 => by
    have hk25 := c_X12_tariff_25 hX hO hΩ  σ n
    unfold b_X12_tariff_25
    refine g_iload hX (dc_X12_tariff 16 rfl) 4 rfl ?_
    refine g_aload_n hX (dc_X12_tariff 17 rfl) rfl 0 rfl ?_
    refine g_getF (q := 1) hX (dc_X12_tariff 18 rfl) fl_X12_9 (by decide) rfl (stS hΩ 0 rfl) rfl ?_
    refine g_iconst (w := (4 : Int32)) hX (dc_X12_tariff 19 rfl) (by decide) ?_
    refine g_iald (j := 4) hX (dc_X12_tariff 20 rfl) (stS hΩ 1 rfl) (by decide) (by decide) ?_
    refine g_icmp_ge (tgt := 72) hX (dc_X12_tariff 21 rfl) (by decide) (fun h26 => ?_) (fun h26 => ?_)
    · refine g_iconst (w := (0 : Int32)) hX (dc_X12_tariff 42 rfl) (by decide) ?_
      refine g_istore (L' := [(4, .int (0 : Int32)), (0, .ref 0), (1, .int y1), (2, .int y2), (3, .int y3)]) hX (dc_X12_tariff 43 rfl) (by decide) rfl ?_
      refine g_iconst (w := (0 : Int32)) hX (dc_X12_tariff 44 rfl) (by decide) ?_
      refine g_istore (L' := [(5, .int (0 : Int32)), (4, .int (0 : Int32)), (0, .ref 0), (1, .int y1), (2, .int y2), (3, .int y3)]) hX (dc_X12_tariff 45 rfl) (by decide) rfl ?_
      refine g_iconst (w := (0 : Int32)) hX (dc_X12_tariff 46 rfl) (by decide) ?_
      refine g_istore (L' := [(6, .int (0 : Int32)), (5, .int (0 : Int32)), (4, .int (0 : Int32)), (0, .ref 0), (1, .int y1), (2, .int y2), (3, .int y3)]) hX (dc_X12_tariff 47 rfl) (by decide) rfl ?_
      exact g_sub [3, 5, 6, 2, 1, 0] rfl (c_X12_tariff_81 hX hO hΩ σ FU (y2) (y3) ((0 : Int32)) ((0 : Int32)) ((0 : Int32)))
    · refine g_iload_n hX (dc_X12_tariff 22 rfl) rfl 3 rfl ?_
      refine g_aload_n hX (dc_X12_tariff 23 rfl) rfl 0 rfl ?_
      refine g_getF (q := 8) hX (dc_X12_tariff 24 rfl) fl_X12_31 (by decide) rfl (stS hΩ 0 rfl) rfl ?_
      refine g_iload hX (dc_X12_tariff 25 rfl) 4 rfl ?_
      refine g_chk (fun hc27 => ?_)
      refine g_iald hX (dc_X12_tariff 26 rfl) (stS hΩ 8 rfl) hc27 rfl ?_
      refine g_iload_n hX (dc_X12_tariff 27 rfl) rfl 1 rfl ?_
      refine g_icmp_ne (tgt := 63) hX (dc_X12_tariff 28 rfl) (by decide) (fun h28 => ?_) (fun h28 => ?_)
      · refine g_aload_n hX (dc_X12_tariff 29 rfl) rfl 0 rfl ?_
        refine g_getF (q := 9) hX (dc_X12_tariff 30 rfl) fl_X12_34 (by decide) rfl (stS hΩ 0 rfl) rfl ?_
        refine g_iload hX (dc_X12_tariff 31 rfl) 4 rfl ?_
        refine g_chk (fun hc29 => ?_)
        refine g_iald hX (dc_X12_tariff 32 rfl) (stS hΩ 9 rfl) hc29 rfl ?_
        refine g_iconst (w := (-1 : Int32)) hX (dc_X12_tariff 33 rfl) (by decide) ?_
        refine g_icmp_ne (tgt := 63) hX (dc_X12_tariff 34 rfl) (by decide) (fun h30 => ?_) (fun h30 => ?_)
        · refine g_iconst (w := (1 : Int32)) hX (dc_X12_tariff 35 rfl) (by decide) ?_
          refine g_goto (tgt := 64) hX (dc_X12_tariff 36 rfl) (by decide) ?_
          exact g_sub [0, 1, 2, 4] rfl (c_X12_tariff_64 hX hO hΩ σ _ hk25 (y1) (y2) (y4) ((1 : Int32)) (y3))
        · exact g_sub [0, 1, 2, 4] rfl (c_X12_tariff_63 hX hO hΩ σ _ hk25 (y1) (y2) (y4) (y3))
      · exact g_sub [0, 1, 2, 4] rfl (c_X12_tariff_63 hX hO hΩ σ _ hk25 (y1) (y2) (y4) (y3))
def b_X12_tariff_18     (σ : MS) : Option (Int32) := some (-1 : Int32)
set_option maxHeartbeats 4000000 in
set_option maxRecDepth 20000 in
theorem c_X12_tariff_18 {X : CX} {Ω : OM} (hX : CF X Ω RX12 cX12_tariff 9 (some .int) rm_X12_tariff) (hO : OKO Ω) (hΩ : oSH Ω = SHM)   (σ : MS)      : GE X Ω 9 0 0 (emPI σ) 0 0 18 [] [] σ (b_X12_tariff_18  σ) := by
  unfold b_X12_tariff_18
  refine g_iconst (w := (-1 : Int32)) hX (dc_X12_tariff 10 rfl) (by decide) ?_
  exact g_iret hX (dc_X12_tariff 11 rfl) rfl rfl (Nat.le_refl _) (Nat.le_refl _)
def b_X12_tariff_0   (x1 : Int32) (x2 : Int32)  (σ : MS) : Option (Int32) := (f_X12_isKind x1 σ).bind (fun r31 => (if r31 = 0 then (b_X12_tariff_18 σ) else (f_X12_in (x2).toInt64 (0 : Int64) (1 : Int64)).bind (fun r33 => (if r33 = 0 then (b_X12_tariff_18 σ) else (b_X12_tariff_25 FU (x1) (x2) ((0 : Int32)) ((0 : Int32)) σ)))))
set_option maxHeartbeats 4000000 in
set_option maxRecDepth 20000 in
theorem c_X12_tariff_0 {X : CX} {Ω : OM} (hX : CF X Ω RX12 cX12_tariff 9 (some .int) rm_X12_tariff) (hO : OKO Ω) (hΩ : oSH Ω = SHM)   (σ : MS)  (x1 : Int32) (x2 : Int32)    : GE X Ω 9 0 0 (emPI σ) 0 0 0 [(0, .ref 0), (1, .int x1), (2, .int x2)] [] σ (b_X12_tariff_0  x1 x2 σ) := by
  unfold b_X12_tariff_0
  refine g_aload_n hX (dc_X12_tariff 0 rfl) rfl 0 rfl ?_
  refine g_iload_n hX (dc_X12_tariff 1 rfl) rfl 1 rfl ?_
  refine gV_PI (As := [.int x1]) (st := []) hX (dc_X12_tariff 2 rfl) ml_X12_390 (con_X12_isKind hO hΩ x1 σ) (stS hΩ 0 rfl) rfl rfl ⟨by decide, by decide⟩ ⟨rfl, rfl⟩ ⟨Nat.zero_le _, Nat.zero_le _⟩ (Nat.le_of_ble_eq_true rfl) (fun r31 _ => ?_)
  refine g_if_eq (tgt := 18) hX (dc_X12_tariff 3 rfl) (by decide) (fun h32 => ?_) (fun h32 => ?_)
  · exact g_sub [] rfl (c_X12_tariff_18 hX hO hΩ σ)
  · refine g_iload_n hX (dc_X12_tariff 4 rfl) rfl 2 rfl ?_
    refine g_i2l hX (dc_X12_tariff 5 rfl) ?_
    refine g_lconst (w := (0 : Int64)) hX (dc_X12_tariff 6 rfl) (by decide) ?_
    refine g_lconst (w := (1 : Int64)) hX (dc_X12_tariff 7 rfl) (by decide) ?_
    refine gS_PI (As := [.long (x2).toInt64, .long (0 : Int64), .long (1 : Int64)]) (st := []) hX (dc_X12_tariff 8 rfl) ml_X12_161 (con_X12_in hO hΩ (x2).toInt64 (0 : Int64) (1 : Int64) σ) rfl rfl ⟨by decide, by decide⟩ ⟨rfl, rfl⟩ ⟨Nat.zero_le _, Nat.zero_le _⟩ (Nat.le_of_ble_eq_true rfl) (fun r33 _ => ?_)
    refine g_if_ne (tgt := 20) hX (dc_X12_tariff 9 rfl) (by decide) (fun h34 => ?_) (fun h34 => ?_)
    · exact g_sub [] rfl (c_X12_tariff_18 hX hO hΩ σ)
    · refine g_iconst (w := (0 : Int32)) hX (dc_X12_tariff 12 rfl) (by decide) ?_
      refine g_istore_n (L' := [(3, .int (0 : Int32)), (0, .ref 0), (1, .int x1), (2, .int x2)]) hX (dc_X12_tariff 13 rfl) rfl (by decide) rfl ?_
      refine g_iconst (w := (0 : Int32)) hX (dc_X12_tariff 14 rfl) (by decide) ?_
      refine g_istore (L' := [(4, .int (0 : Int32)), (3, .int (0 : Int32)), (0, .ref 0), (1, .int x1), (2, .int x2)]) hX (dc_X12_tariff 15 rfl) (by decide) rfl ?_
      exact g_sub [2, 3, 4, 1, 0] rfl (c_X12_tariff_25 hX hO hΩ σ FU (x1) (x2) ((0 : Int32)) ((0 : Int32)))
def f_X12_tariff (x1 : Int32) (x2 : Int32) (σ : MS) : Option (Int32) := b_X12_tariff_0  x1 x2 σ
theorem con_X12_tariff {Ω : OM} (hO : OKO Ω) (hΩ : oSH Ω = SHM) (x1 : Int32) (x2 : Int32) (σ : MS)  : Con Ω yX12_tariff cX12_tariff 9 (some .int) rm_X12_tariff (emPI σ) [.ref 0, .int x1, .int x2] σ (f_X12_tariff x1 x2 σ) :=
  con_of hO (by decide +kernel) (Nat.le_of_ble_eq_true rfl) rfl (fun X hX _ => c_X12_tariff_0 hX hO hΩ   σ x1 x2)
def it_X12_help : List (Nat × Instr × Nat × Nat) := [(0, .aload_n 0, 1, 1), (1, .getfield 341, 3, 4), (4, .ifCond .eq 25, 3, 7), (7, .iload_n 1, 1, 8), (8, .i2l, 1, 9), (9, .lconst 1, 1, 10), (10, .ldc2_w 206, 3, 13), (13, .invokestatic 161, 3, 16), (16, .ifCond .eq 13, 3, 19), (19, .iload_n 2, 1, 20), (20, .i2l, 1, 21), (21, .lconst 0, 1, 22), (22, .lconst 1, 1, 23), (23, .invokestatic 161, 3, 26), (26, .ifCond .ne 6, 3, 29), (29, .bipush (-2), 2, 31), (31, .ireturn, 1, 32), (32, .iconst (-1), 1, 33), (33, .istore_n 3, 1, 34), (34, .iconst (-1), 1, 35), (35, .istore 4, 2, 37), (37, .aload_n 0, 1, 38), (38, .invokevirtual 462, 3, 41), (41, .iconst (-1), 1, 42), (42, .istore 5, 2, 44), (44, .iload 5, 2, 46), (46, .aload_n 0, 1, 47), (47, .getfield 9, 3, 50), (50, .iconst 3, 1, 51), (51, .iaload, 1, 52), (52, .if_icmp .ge 74, 3, 55), (55, .iload 5, 2, 57), (57, .iconst (-1), 1, 58), (58, .if_icmp .eq 14, 3, 61), (61, .aload_n 0, 1, 62), (62, .getfield 28, 3, 65), (65, .iload 5, 2, 67), (67, .dup2, 1, 68), (68, .iaload, 1, 69), (69, .iconst 1, 1, 70), (70, .iadd, 1, 71), (71, .iastore, 1, 72), (72, .aload_n 0, 1, 73), (73, .iload_n 1, 1, 74), (74, .invokevirtual 465, 3, 77), (77, .istore 6, 2, 79), (79, .iload 5, 2, 81), (81, .iconst (-1), 1, 82), (82, .if_icmp .eq 14, 3, 85), (85, .aload_n 0, 1, 86), (86, .getfield 28, 3, 89), (89, .iload 5, 2, 91), (91, .dup2, 1, 92), (92, .iaload, 1, 93), (93, .iconst 1, 1, 94), (94, .isub, 1, 95), (95, .iastore, 1, 96), (96, .aload_n 0, 1, 97), (97, .invokevirtual 468, 3, 100), (100, .iload 4, 2, 102), (102, .iconst (-1), 1, 103), (103, .if_icmp .eq 10, 3, 106), (106, .iload 6, 2, 108), (108, .iload 4, 2, 110), (110, .if_icmp .ge 10, 3, 113), (113, .iload 5, 2, 115), (115, .istore_n 3, 1, 116), (116, .iload 6, 2, 118), (118, .istore 4, 2, 120), (120, .iinc 5 1, 3, 123), (123, .goto (-79), 3, 126), (126, .iload_n 2, 1, 127), (127, .ifCond .ne 7, 3, 130), (130, .iload_n 3, 1, 131), (131, .goto 5, 3, 134), (134, .iload 4, 2, 136), (136, .ireturn, 1, 137)]
theorem id_X12_help : ∀ q ∈ it_X12_help, decode cX12_help q.1 = .ok (q.2.1, q.2.2.1) ∧ q.1 + q.2.2.1 = q.2.2.2 := by decide +kernel
theorem dc_X12_help {pc : Nat} {i : Instr} {n pc' : Nat} (j : Nat) (h : it_X12_help[j]? = some (pc, i, n, pc')) : Dc cX12_help pc i n pc' := dc_of id_X12_help j h
abbrev rm_X12_help : Room := { frames := 8, cells := 0, slots := 0, locals := 188 }
def b_X12_help_136    (s0 : Int32) (σ : MS) : Option (Int32 × MS) := some (s0, σ)
set_option maxHeartbeats 4000000 in
set_option maxRecDepth 20000 in
theorem c_X12_help_136 {X : CX} {Ω : OM} (hX : CF X Ω RX12 cX12_help 7 (some .int) rm_X12_help) (hO : OKO Ω) (hΩ : oSH Ω = SHM)     (s0 : Int32) (σ : MS)  : GE X Ω 7 0 0 (emWI) 0 0 136 [] [.int s0] σ (b_X12_help_136  s0 σ) := by
  unfold b_X12_help_136
  exact g_iret hX (dc_X12_help 76 rfl) rfl rfl (Nat.le_refl _) (Nat.le_refl _)
def b_X12_help_120  (k44 : Int32 → Int32 → Int32 → Int32 → Int32 → MS → Option (Int32 × MS))  (y1 : Int32) (y2 : Int32) (y3 : Int32) (y4 : Int32) (y5 : Int32) (σ : MS) : Option (Int32 × MS) := (k44 (y1) (y2) (y3) (y4) ((y5 + (1 : Int32))) σ)
set_option maxHeartbeats 4000000 in
set_option maxRecDepth 20000 in
theorem c_X12_help_120 {X : CX} {Ω : OM} (hX : CF X Ω RX12 cX12_help 7 (some .int) rm_X12_help) (hO : OKO Ω) (hΩ : oSH Ω = SHM)   (k44 : Int32 → Int32 → Int32 → Int32 → Int32 → MS → Option (Int32 × MS)) (hk44 : ∀ (y1 : Int32) (y2 : Int32) (y3 : Int32) (y4 : Int32) (y5 : Int32) (σ : MS) , GE X Ω 7 0 0 (emWI) 0 0 44 [(0, .ref 0), (1, .int y1), (2, .int y2), (3, .int y3), (4, .int y4), (5, .int y5)] [] σ (k44 y1 y2 y3 y4 y5 σ))  (y1 : Int32) (y2 : Int32) (y3 : Int32) (y4 : Int32) (y5 : Int32) (σ : MS)  : GE X Ω 7 0 0 (emWI) 0 0 120 [(0, .ref 0), (1, .int y1), (2, .int y2), (3, .int y3), (4, .int y4), (5, .int y5)] [] σ (b_X12_help_120  k44 y1 y2 y3 y4 y5 σ) := by
  unfold b_X12_help_120
  refine g_iinc (w := (y5 + (1 : Int32))) (L' := [(5, .int (y5 + (1 : Int32))), (0, .ref 0), (1, .int y1), (2, .int y2), (3, .int y3), (4, .int y4)]) hX (dc_X12_help 69 rfl) 5 rfl rfl (by decide) rfl ?_
  refine g_goto (tgt := 44) hX (dc_X12_help 70 rfl) (by decide) ?_
  exact g_sub [1, 2, 3, 4, 5, 0] rfl (hk44 (y1) (y2) (y3) (y4) ((y5 + (1 : Int32))) σ )
def b_X12_help_113  (k44 : Int32 → Int32 → Int32 → Int32 → Int32 → MS → Option (Int32 × MS))  (y1 : Int32) (y2 : Int32) (y5 : Int32) (y6 : Int32) (σ : MS) : Option (Int32 × MS) := (b_X12_help_120 k44 (y1) (y2) (y5) (y6) (y5) σ)
set_option maxHeartbeats 4000000 in
set_option maxRecDepth 20000 in
theorem c_X12_help_113 {X : CX} {Ω : OM} (hX : CF X Ω RX12 cX12_help 7 (some .int) rm_X12_help) (hO : OKO Ω) (hΩ : oSH Ω = SHM)   (k44 : Int32 → Int32 → Int32 → Int32 → Int32 → MS → Option (Int32 × MS)) (hk44 : ∀ (y1 : Int32) (y2 : Int32) (y3 : Int32) (y4 : Int32) (y5 : Int32) (σ : MS) , GE X Ω 7 0 0 (emWI) 0 0 44 [(0, .ref 0), (1, .int y1), (2, .int y2), (3, .int y3), (4, .int y4), (5, .int y5)] [] σ (k44 y1 y2 y3 y4 y5 σ))  (y1 : Int32) (y2 : Int32) (y5 : Int32) (y6 : Int32) (σ : MS)  : GE X Ω 7 0 0 (emWI) 0 0 113 [(0, .ref 0), (1, .int y1), (2, .int y2), (5, .int y5), (6, .int y6)] [] σ (b_X12_help_113  k44 y1 y2 y5 y6 σ) := by
  unfold b_X12_help_113
  refine g_iload hX (dc_X12_help 65 rfl) 3 rfl ?_
  refine g_istore_n (L' := [(3, .int y5), (0, .ref 0), (1, .int y1), (2, .int y2), (5, .int y5), (6, .int y6)]) hX (dc_X12_help 66 rfl) rfl (by decide) rfl ?_
  refine g_iload hX (dc_X12_help 67 rfl) 5 rfl ?_
  refine g_istore (L' := [(4, .int y6), (3, .int y5), (0, .ref 0), (1, .int y1), (2, .int y2), (5, .int y5), (6, .int y6)]) hX (dc_X12_help 68 rfl) (by decide) rfl ?_
  exact g_sub [2, 3, 4, 1, 0, 5] rfl (c_X12_help_120 hX hO hΩ _ hk44 (y1) (y2) (y5) (y6) (y5) σ)
def b_X12_help_96  (k44 : Int32 → Int32 → Int32 → Int32 → Int32 → MS → Option (Int32 × MS))  (y1 : Int32) (y2 : Int32) (y3 : Int32) (y4 : Int32) (y5 : Int32) (y6 : Int32) (σ : MS) : Option (Int32 × MS) := (f_X12_laysBack σ).bind (fun r19 => (if y4 = (-1 : Int32) then (b_X12_help_113 k44 (y1) (y2) (y5) (y6) r19) else (if y4 ≤ y6 then (b_X12_help_120 k44 (y1) (y2) (y3) (y4) (y5) r19) else (b_X12_help_113 k44 (y1) (y2) (y5) (y6) r19))))
set_option maxHeartbeats 4000000 in
set_option maxRecDepth 20000 in
theorem c_X12_help_96 {X : CX} {Ω : OM} (hX : CF X Ω RX12 cX12_help 7 (some .int) rm_X12_help) (hO : OKO Ω) (hΩ : oSH Ω = SHM)   (k44 : Int32 → Int32 → Int32 → Int32 → Int32 → MS → Option (Int32 × MS)) (hk44 : ∀ (y1 : Int32) (y2 : Int32) (y3 : Int32) (y4 : Int32) (y5 : Int32) (σ : MS) , GE X Ω 7 0 0 (emWI) 0 0 44 [(0, .ref 0), (1, .int y1), (2, .int y2), (3, .int y3), (4, .int y4), (5, .int y5)] [] σ (k44 y1 y2 y3 y4 y5 σ))  (y1 : Int32) (y2 : Int32) (y3 : Int32) (y4 : Int32) (y5 : Int32) (y6 : Int32) (σ : MS)  : GE X Ω 7 0 0 (emWI) 0 0 96 [(0, .ref 0), (1, .int y1), (2, .int y2), (3, .int y3), (4, .int y4), (5, .int y5), (6, .int y6)] [] σ (b_X12_help_96  k44 y1 y2 y3 y4 y5 y6 σ) := by
  unfold b_X12_help_96
  refine g_aload_n hX (dc_X12_help 57 rfl) rfl 0 rfl ?_
  refine gV_WV (As := []) (st := []) hX (dc_X12_help 58 rfl) ml_X12_468 (con_X12_laysBack hO hΩ σ) (stS hΩ 0 rfl) rfl rfl ⟨by decide, by decide⟩ ⟨rfl, rfl⟩ ⟨Nat.zero_le _, Nat.zero_le _⟩ (Nat.le_of_ble_eq_true rfl) (fun r19 _ => ?_)
  refine g_iload hX (dc_X12_help 59 rfl) 4 rfl ?_
  refine g_iconst (w := (-1 : Int32)) hX (dc_X12_help 60 rfl) (by decide) ?_
  refine g_icmp_eq (tgt := 113) hX (dc_X12_help 61 rfl) (by decide) (fun h20 => ?_) (fun h20 => ?_)
  · exact g_sub [0, 1, 2, 5, 6] rfl (c_X12_help_113 hX hO hΩ _ hk44 (y1) (y2) (y5) (y6) r19)
  · refine g_iload hX (dc_X12_help 62 rfl) 6 rfl ?_
    refine g_iload hX (dc_X12_help 63 rfl) 4 rfl ?_
    refine g_icmp_ge (tgt := 120) hX (dc_X12_help 64 rfl) (by decide) (fun h21 => ?_) (fun h21 => ?_)
    · exact g_sub [0, 1, 2, 3, 4, 5] rfl (c_X12_help_120 hX hO hΩ _ hk44 (y1) (y2) (y3) (y4) (y5) r19)
    · exact g_sub [0, 1, 2, 5, 6] rfl (c_X12_help_113 hX hO hΩ _ hk44 (y1) (y2) (y5) (y6) r19)
def b_X12_help_72  (k44 : Int32 → Int32 → Int32 → Int32 → Int32 → MS → Option (Int32 × MS))  (y1 : Int32) (y2 : Int32) (y3 : Int32) (y4 : Int32) (y5 : Int32) (σ : MS) : Option (Int32 × MS) := (f_X12_goFor y1 σ).bind (fun r22 => (if y5 = (-1 : Int32) then (b_X12_help_96 k44 (y1) (y2) (y3) (y4) (y5) (r22.1) r22.2) else chk (inb y5 4) (chk (inb y5 4) ((b_X12_help_96 k44 (y1) (y2) (y3) (y4) (y5) (r22.1) (wI r22.2 7 (ix y5) ((sI r22.2 7 (ix y5)) - (1 : Int32))))))))
set_option maxHeartbeats 4000000 in
set_option maxRecDepth 20000 in
theorem c_X12_help_72 {X : CX} {Ω : OM} (hX : CF X Ω RX12 cX12_help 7 (some .int) rm_X12_help) (hO : OKO Ω) (hΩ : oSH Ω = SHM)   (k44 : Int32 → Int32 → Int32 → Int32 → Int32 → MS → Option (Int32 × MS)) (hk44 : ∀ (y1 : Int32) (y2 : Int32) (y3 : Int32) (y4 : Int32) (y5 : Int32) (σ : MS) , GE X Ω 7 0 0 (emWI) 0 0 44 [(0, .ref 0), (1, .int y1), (2, .int y2), (3, .int y3), (4, .int y4), (5, .int y5)] [] σ (k44 y1 y2 y3 y4 y5 σ))  (y1 : Int32) (y2 : Int32) (y3 : Int32) (y4 : Int32) (y5 : Int32) (σ : MS)  : GE X Ω 7 0 0 (emWI) 0 0 72 [(0, .ref 0), (1, .int y1), (2, .int y2), (3, .int y3), (4, .int y4), (5, .int y5)] [] σ (b_X12_help_72  k44 y1 y2 y3 y4 y5 σ) := by
  unfold b_X12_help_72
  refine g_aload_n hX (dc_X12_help 42 rfl) rfl 0 rfl ?_
  refine g_iload_n hX (dc_X12_help 43 rfl) rfl 1 rfl ?_
  refine gV_WI (As := [.int y1]) (st := []) hX (dc_X12_help 44 rfl) ml_X12_465 (con_X12_goFor hO hΩ y1 σ) (stS hΩ 0 rfl) rfl rfl ⟨by decide, by decide⟩ ⟨rfl, rfl⟩ ⟨Nat.zero_le _, Nat.zero_le _⟩ (Nat.le_of_ble_eq_true rfl) (fun r22 _ => ?_)
  refine g_istore (L' := [(6, .int r22.1), (0, .ref 0), (1, .int y1), (2, .int y2), (3, .int y3), (4, .int y4), (5, .int y5)]) hX (dc_X12_help 45 rfl) (by decide) rfl ?_
  refine g_iload hX (dc_X12_help 46 rfl) 6 rfl ?_
  refine g_iconst (w := (-1 : Int32)) hX (dc_X12_help 47 rfl) (by decide) ?_
  refine g_icmp_eq (tgt := 96) hX (dc_X12_help 48 rfl) (by decide) (fun h23 => ?_) (fun h23 => ?_)
  · exact g_sub [1, 2, 3, 4, 5, 6, 0] rfl (c_X12_help_96 hX hO hΩ _ hk44 (y1) (y2) (y3) (y4) (y5) (r22.1) r22.2)
  · refine g_aload_n hX (dc_X12_help 49 rfl) rfl 1 rfl ?_
    refine g_getF (q := 7) hX (dc_X12_help 50 rfl) fl_X12_28 (by decide) rfl (stS hΩ 0 rfl) rfl ?_
    refine g_iload hX (dc_X12_help 51 rfl) 6 rfl ?_
    refine g_dup2 hX (dc_X12_help 52 rfl) rfl rfl ?_
    refine g_chk (fun hc24 => ?_)
    refine g_iald hX (dc_X12_help 53 rfl) (stS hΩ 7 rfl) hc24 rfl ?_
    refine g_iconst (w := (1 : Int32)) hX (dc_X12_help 54 rfl) (by decide) ?_
    refine g_isub hX (dc_X12_help 55 rfl) ?_
    refine g_chk (fun hc25 => ?_)
    refine g_iast hX (dc_X12_help 56 rfl) (stS hΩ 7 rfl) hc25 rfl ?_
    exact g_sub [1, 2, 3, 4, 5, 6, 0] rfl (c_X12_help_96 hX hO hΩ _ hk44 (y1) (y2) (y3) (y4) (y5) (r22.1) (wI r22.2 7 (ix y5) ((sI r22.2 7 (ix y5)) - (1 : Int32))))
def b_X12_help_44   : Nat → Int32 → Int32 → Int32 → Int32 → Int32 → MS → Option (Int32 × MS)
  | 0, _, _, _, _, _, _ => none
  | n + 1, y1, y2, y3, y4, y5, σ => (if (sI σ 1 3) ≤ y5 then (if y2 = 0 then (b_X12_help_136 (y3) σ) else (b_X12_help_136 (y4) σ)) else (if y5 = (-1 : Int32) then (b_X12_help_72 (b_X12_help_44  n) (y1) (y2) (y3) (y4) (y5) σ) else chk (inb y5 4) (chk (inb y5 4) ((b_X12_help_72 (b_X12_help_44  n) (y1) (y2) (y3) (y4) (y5) (wI σ 7 (ix y5) ((sI σ 7 (ix y5)) + (1 : Int32))))))))
set_option maxHeartbeats 4000000 in
set_option maxRecDepth 20000 in
theorem c_X12_help_44 {X : CX} {Ω : OM} (hX : CF X Ω RX12 cX12_help 7 (some .int) rm_X12_help) (hO : OKO Ω) (hΩ : oSH Ω = SHM)    : ∀ (n : Nat) (y1 : Int32) (y2 : Int32) (y3 : Int32) (y4 : Int32) (y5 : Int32) (σ : MS) , GE X Ω 7 0 0 (emWI) 0 0 44 [(0, .ref 0), (1, .int y1), (2, .int y2), (3, .int y3), (4, .int y4), (5, .int y5)] [] σ (b_X12_help_44  n y1 y2 y3 y4 y5 σ)
  | 0, _, _, _, _, _, _ => g_none
  | n + 1, y1, y2, y3, y4, y5, σ => by
    have hk44 := c_X12_help_44 hX hO hΩ  n
    unfold b_X12_help_44
    refine g_iload hX (dc_X12_help 25 rfl) 5 rfl ?_
    refine g_aload_n hX (dc_X12_help 26 rfl) rfl 0 rfl ?_
    refine g_getF (q := 1) hX (dc_X12_help 27 rfl) fl_X12_9 (by decide) rfl (stS hΩ 0 rfl) rfl ?_
    refine g_iconst (w := (3 : Int32)) hX (dc_X12_help 28 rfl) (by decide) ?_
    refine g_iald (j := 3) hX (dc_X12_help 29 rfl) (stS hΩ 1 rfl) (by decide) (by decide) ?_
    refine g_icmp_ge (tgt := 126) hX (dc_X12_help 30 rfl) (by decide) (fun h26 => ?_) (fun h26 => ?_)
    · refine g_iload_n hX (dc_X12_help 71 rfl) rfl 2 rfl ?_
      refine g_if_ne (tgt := 134) hX (dc_X12_help 72 rfl) (by decide) (fun h27 => ?_) (fun h27 => ?_)
      · refine g_iload_n hX (dc_X12_help 73 rfl) rfl 3 rfl ?_
        refine g_goto (tgt := 136) hX (dc_X12_help 74 rfl) (by decide) ?_
        exact g_sub [] rfl (c_X12_help_136 hX hO hΩ (y3) σ)
      · refine g_iload hX (dc_X12_help 75 rfl) 4 rfl ?_
        exact g_sub [] rfl (c_X12_help_136 hX hO hΩ (y4) σ)
    · refine g_iload hX (dc_X12_help 31 rfl) 5 rfl ?_
      refine g_iconst (w := (-1 : Int32)) hX (dc_X12_help 32 rfl) (by decide) ?_
      refine g_icmp_eq (tgt := 72) hX (dc_X12_help 33 rfl) (by decide) (fun h28 => ?_) (fun h28 => ?_)
      · exact g_sub [0, 1, 2, 3, 4, 5] rfl (c_X12_help_72 hX hO hΩ _ hk44 (y1) (y2) (y3) (y4) (y5) σ)
      · refine g_aload_n hX (dc_X12_help 34 rfl) rfl 0 rfl ?_
        refine g_getF (q := 7) hX (dc_X12_help 35 rfl) fl_X12_28 (by decide) rfl (stS hΩ 0 rfl) rfl ?_
        refine g_iload hX (dc_X12_help 36 rfl) 5 rfl ?_
        refine g_dup2 hX (dc_X12_help 37 rfl) rfl rfl ?_
        refine g_chk (fun hc29 => ?_)
        refine g_iald hX (dc_X12_help 38 rfl) (stS hΩ 7 rfl) hc29 rfl ?_
        refine g_iconst (w := (1 : Int32)) hX (dc_X12_help 39 rfl) (by decide) ?_
        refine g_iadd hX (dc_X12_help 40 rfl) ?_
        refine g_chk (fun hc30 => ?_)
        refine g_iast hX (dc_X12_help 41 rfl) (stS hΩ 7 rfl) hc30 rfl ?_
        exact g_sub [0, 1, 2, 3, 4, 5] rfl (c_X12_help_72 hX hO hΩ _ hk44 (y1) (y2) (y3) (y4) (y5) (wI σ 7 (ix y5) ((sI σ 7 (ix y5)) + (1 : Int32))))
def b_X12_help_29     (σ : MS) : Option (Int32 × MS) := some ((-2 : Int32), σ)
set_option maxHeartbeats 4000000 in
set_option maxRecDepth 20000 in
theorem c_X12_help_29 {X : CX} {Ω : OM} (hX : CF X Ω RX12 cX12_help 7 (some .int) rm_X12_help) (hO : OKO Ω) (hΩ : oSH Ω = SHM)      (σ : MS)  : GE X Ω 7 0 0 (emWI) 0 0 29 [] [] σ (b_X12_help_29  σ) := by
  unfold b_X12_help_29
  refine g_bipush (w := (-2 : Int32)) hX (dc_X12_help 15 rfl) (by decide) ?_
  exact g_iret hX (dc_X12_help 16 rfl) rfl rfl (Nat.le_refl _) (Nat.le_refl _)
def b_X12_help_0   (x1 : Int32) (x2 : Int32)  (σ : MS) : Option (Int32 × MS) := (if (sI σ 0 28) = 0 then (b_X12_help_29 σ) else (f_X12_in (x1).toInt64 (1 : Int64) (48 : Int64)).bind (fun r32 => (if r32 = 0 then (b_X12_help_29 σ) else (f_X12_in (x2).toInt64 (0 : Int64) (1 : Int64)).bind (fun r34 => (if r34 = 0 then (b_X12_help_29 σ) else (f_X12_keepsAll σ).bind (fun r36 => (b_X12_help_44 FU (x1) (x2) ((-1 : Int32)) ((-1 : Int32)) ((-1 : Int32)) r36)))))))
set_option maxHeartbeats 4000000 in
set_option maxRecDepth 20000 in
theorem c_X12_help_0 {X : CX} {Ω : OM} (hX : CF X Ω RX12 cX12_help 7 (some .int) rm_X12_help) (hO : OKO Ω) (hΩ : oSH Ω = SHM)    (x1 : Int32) (x2 : Int32)  (σ : MS)  : GE X Ω 7 0 0 (emWI) 0 0 0 [(0, .ref 0), (1, .int x1), (2, .int x2)] [] σ (b_X12_help_0  x1 x2 σ) := by
  unfold b_X12_help_0
  refine g_aload_n hX (dc_X12_help 0 rfl) rfl 0 rfl ?_
  refine g_getI hX (dc_X12_help 1 rfl) fl_X12_341 (by decide) rfl (stS hΩ 0 rfl) ?_
  refine g_if_eq (tgt := 29) hX (dc_X12_help 2 rfl) (by decide) (fun h31 => ?_) (fun h31 => ?_)
  · exact g_sub [] rfl (c_X12_help_29 hX hO hΩ σ)
  · refine g_iload_n hX (dc_X12_help 3 rfl) rfl 1 rfl ?_
    refine g_i2l hX (dc_X12_help 4 rfl) ?_
    refine g_lconst (w := (1 : Int64)) hX (dc_X12_help 5 rfl) (by decide) ?_
    refine g_ldc2 hX (dc_X12_help 6 rfl) wk_X12_206 ?_
    refine gS_PI (As := [.long (x1).toInt64, .long (1 : Int64), .long (48 : Int64)]) (st := []) hX (dc_X12_help 7 rfl) ml_X12_161 (con_X12_in hO hΩ (x1).toInt64 (1 : Int64) (48 : Int64) σ) rfl rfl ⟨by decide, by decide⟩ ⟨rfl, rfl⟩ ⟨Nat.zero_le _, Nat.zero_le _⟩ (Nat.le_of_ble_eq_true rfl) (fun r32 _ => ?_)
    refine g_if_eq (tgt := 29) hX (dc_X12_help 8 rfl) (by decide) (fun h33 => ?_) (fun h33 => ?_)
    · exact g_sub [] rfl (c_X12_help_29 hX hO hΩ σ)
    · refine g_iload_n hX (dc_X12_help 9 rfl) rfl 2 rfl ?_
      refine g_i2l hX (dc_X12_help 10 rfl) ?_
      refine g_lconst (w := (0 : Int64)) hX (dc_X12_help 11 rfl) (by decide) ?_
      refine g_lconst (w := (1 : Int64)) hX (dc_X12_help 12 rfl) (by decide) ?_
      refine gS_PI (As := [.long (x2).toInt64, .long (0 : Int64), .long (1 : Int64)]) (st := []) hX (dc_X12_help 13 rfl) ml_X12_161 (con_X12_in hO hΩ (x2).toInt64 (0 : Int64) (1 : Int64) σ) rfl rfl ⟨by decide, by decide⟩ ⟨rfl, rfl⟩ ⟨Nat.zero_le _, Nat.zero_le _⟩ (Nat.le_of_ble_eq_true rfl) (fun r34 _ => ?_)
      refine g_if_ne (tgt := 32) hX (dc_X12_help 14 rfl) (by decide) (fun h35 => ?_) (fun h35 => ?_)
      · exact g_sub [] rfl (c_X12_help_29 hX hO hΩ σ)
      · refine g_iconst (w := (-1 : Int32)) hX (dc_X12_help 17 rfl) (by decide) ?_
        refine g_istore_n (L' := [(3, .int (-1 : Int32)), (0, .ref 0), (1, .int x1), (2, .int x2)]) hX (dc_X12_help 18 rfl) rfl (by decide) rfl ?_
        refine g_iconst (w := (-1 : Int32)) hX (dc_X12_help 19 rfl) (by decide) ?_
        refine g_istore (L' := [(4, .int (-1 : Int32)), (3, .int (-1 : Int32)), (0, .ref 0), (1, .int x1), (2, .int x2)]) hX (dc_X12_help 20 rfl) (by decide) rfl ?_
        refine g_aload_n hX (dc_X12_help 21 rfl) rfl 2 rfl ?_
        refine gV_WV (As := []) (st := []) hX (dc_X12_help 22 rfl) ml_X12_462 (con_X12_keepsAll hO hΩ σ) (stS hΩ 0 rfl) rfl rfl ⟨by decide, by decide⟩ ⟨rfl, rfl⟩ ⟨Nat.zero_le _, Nat.zero_le _⟩ (Nat.le_of_ble_eq_true rfl) (fun r36 _ => ?_)
        refine g_iconst (w := (-1 : Int32)) hX (dc_X12_help 23 rfl) (by decide) ?_
        refine g_istore (L' := [(5, .int (-1 : Int32)), (4, .int (-1 : Int32)), (3, .int (-1 : Int32)), (0, .ref 0), (1, .int x1), (2, .int x2)]) hX (dc_X12_help 24 rfl) (by decide) rfl ?_
        exact g_sub [3, 4, 5, 2, 1, 0] rfl (c_X12_help_44 hX hO hΩ FU (x1) (x2) ((-1 : Int32)) ((-1 : Int32)) ((-1 : Int32)) r36)
def f_X12_help (x1 : Int32) (x2 : Int32) (σ : MS) : Option (Int32 × MS) := b_X12_help_0  x1 x2 σ
theorem con_X12_help {Ω : OM} (hO : OKO Ω) (hΩ : oSH Ω = SHM) (x1 : Int32) (x2 : Int32) (σ : MS)  : Con Ω yX12_help cX12_help 7 (some .int) rm_X12_help (emWI) [.ref 0, .int x1, .int x2] σ (f_X12_help x1 x2 σ) :=
  con_of hO (by decide +kernel) (Nat.le_of_ble_eq_true rfl) rfl (fun X hX _ => c_X12_help_0 hX hO hΩ   x1 x2 σ )
def it_X12_allPurses : List (Nat × Instr × Nat × Nat) := [(0, .iconst 0, 1, 1), (1, .istore_n 1, 1, 2), (2, .iconst 0, 1, 3), (3, .istore_n 2, 1, 4), (4, .iload_n 2, 1, 5), (5, .aload_n 0, 1, 6), (6, .getfield 9, 3, 9), (9, .iconst 3, 1, 10), (10, .iaload, 1, 11), (11, .if_icmp .ge 18, 3, 14), (14, .iload_n 1, 1, 15), (15, .aload_n 0, 1, 16), (16, .getfield 19, 3, 19), (19, .iload_n 2, 1, 20), (20, .iaload, 1, 21), (21, .iadd, 1, 22), (22, .istore_n 1, 1, 23), (23, .iinc 2 1, 3, 26), (26, .goto (-22), 3, 29), (29, .iload_n 1, 1, 30), (30, .ireturn, 1, 31)]
theorem id_X12_allPurses : ∀ q ∈ it_X12_allPurses, decode cX12_allPurses q.1 = .ok (q.2.1, q.2.2.1) ∧ q.1 + q.2.2.1 = q.2.2.2 := by decide +kernel
theorem dc_X12_allPurses {pc : Nat} {i : Instr} {n pc' : Nat} (j : Nat) (h : it_X12_allPurses[j]? = some (pc, i, n, pc')) : Dc cX12_allPurses pc i n pc' := dc_of id_X12_allPurses j h
abbrev rm_X12_allPurses : Room := { frames := 0, cells := 0, slots := 0, locals := 0 }
def b_X12_allPurses_4   : Nat → Int32 → Int32 → MS → Option (Int32)
  | 0, _, _, _ => none
  | n + 1, y1, y2, σ => (if (sI σ 1 3) ≤ y2 then some y1 else chk (inb y2 4) (((b_X12_allPurses_4  n) ((y1 + (sI σ 4 (ix y2)))) ((y2 + (1 : Int32))) σ)))
set_option maxHeartbeats 4000000 in
set_option maxRecDepth 20000 in
theorem c_X12_allPurses_4 {X : CX} {Ω : OM} (hX : CF X Ω RX12 cX12_allPurses 3 (some .int) rm_X12_allPurses) (hO : OKO Ω) (hΩ : oSH Ω = SHM)   (σ : MS)  : ∀ (n : Nat) (y1 : Int32) (y2 : Int32)  , GE X Ω 3 0 0 (emPI σ) 0 0 4 [(0, .ref 0), (1, .int y1), (2, .int y2)] [] σ (b_X12_allPurses_4  n y1 y2 σ)
  | 0, _, _ => g_none
  | n + 1, y1, y2 => by
    have hk4 := c_X12_allPurses_4 hX hO hΩ  σ n
    unfold b_X12_allPurses_4
    refine g_iload_n hX (dc_X12_allPurses 4 rfl) rfl 2 rfl ?_
    refine g_aload_n hX (dc_X12_allPurses 5 rfl) rfl 0 rfl ?_
    refine g_getF (q := 1) hX (dc_X12_allPurses 6 rfl) fl_X12_9 (by decide) rfl (stS hΩ 0 rfl) rfl ?_
    refine g_iconst (w := (3 : Int32)) hX (dc_X12_allPurses 7 rfl) (by decide) ?_
    refine g_iald (j := 3) hX (dc_X12_allPurses 8 rfl) (stS hΩ 1 rfl) (by decide) (by decide) ?_
    refine g_icmp_ge (tgt := 29) hX (dc_X12_allPurses 9 rfl) (by decide) (fun h3 => ?_) (fun h3 => ?_)
    · refine g_iload_n hX (dc_X12_allPurses 19 rfl) rfl 1 rfl ?_
      exact g_iret hX (dc_X12_allPurses 20 rfl) rfl rfl (Nat.le_refl _) (Nat.le_refl _)
    · refine g_iload_n hX (dc_X12_allPurses 10 rfl) rfl 1 rfl ?_
      refine g_aload_n hX (dc_X12_allPurses 11 rfl) rfl 0 rfl ?_
      refine g_getF (q := 4) hX (dc_X12_allPurses 12 rfl) fl_X12_19 (by decide) rfl (stS hΩ 0 rfl) rfl ?_
      refine g_iload_n hX (dc_X12_allPurses 13 rfl) rfl 2 rfl ?_
      refine g_chk (fun hc4 => ?_)
      refine g_iald hX (dc_X12_allPurses 14 rfl) (stS hΩ 4 rfl) hc4 rfl ?_
      refine g_iadd hX (dc_X12_allPurses 15 rfl) ?_
      refine g_istore_n (L' := [(1, .int (y1 + (sI σ 4 (ix y2)))), (0, .ref 0), (2, .int y2)]) hX (dc_X12_allPurses 16 rfl) rfl (by decide) rfl ?_
      refine g_iinc (w := (y2 + (1 : Int32))) (L' := [(2, .int (y2 + (1 : Int32))), (1, .int (y1 + (sI σ 4 (ix y2)))), (0, .ref 0)]) hX (dc_X12_allPurses 17 rfl) 2 rfl rfl (by decide) rfl ?_
      refine g_goto (tgt := 4) hX (dc_X12_allPurses 18 rfl) (by decide) ?_
      exact g_sub [2, 1, 0] rfl (hk4 ((y1 + (sI σ 4 (ix y2)))) ((y2 + (1 : Int32))) )
def b_X12_allPurses_0     (σ : MS) : Option (Int32) := (b_X12_allPurses_4 FU ((0 : Int32)) ((0 : Int32)) σ)
set_option maxHeartbeats 4000000 in
set_option maxRecDepth 20000 in
theorem c_X12_allPurses_0 {X : CX} {Ω : OM} (hX : CF X Ω RX12 cX12_allPurses 3 (some .int) rm_X12_allPurses) (hO : OKO Ω) (hΩ : oSH Ω = SHM)   (σ : MS)      : GE X Ω 3 0 0 (emPI σ) 0 0 0 [(0, .ref 0)] [] σ (b_X12_allPurses_0  σ) := by
  unfold b_X12_allPurses_0
  refine g_iconst (w := (0 : Int32)) hX (dc_X12_allPurses 0 rfl) (by decide) ?_
  refine g_istore_n (L' := [(1, .int (0 : Int32)), (0, .ref 0)]) hX (dc_X12_allPurses 1 rfl) rfl (by decide) rfl ?_
  refine g_iconst (w := (0 : Int32)) hX (dc_X12_allPurses 2 rfl) (by decide) ?_
  refine g_istore_n (L' := [(2, .int (0 : Int32)), (1, .int (0 : Int32)), (0, .ref 0)]) hX (dc_X12_allPurses 3 rfl) rfl (by decide) rfl ?_
  exact g_sub [2, 1, 0] rfl (c_X12_allPurses_4 hX hO hΩ σ FU ((0 : Int32)) ((0 : Int32)))
def f_X12_allPurses  (σ : MS) : Option (Int32) := b_X12_allPurses_0   σ
theorem con_X12_allPurses {Ω : OM} (hO : OKO Ω) (hΩ : oSH Ω = SHM)  (σ : MS)  : Con Ω yX12_allPurses cX12_allPurses 3 (some .int) rm_X12_allPurses (emPI σ) [.ref 0] σ (f_X12_allPurses  σ) :=
  con_of hO (by decide +kernel) (Nat.le_of_ble_eq_true rfl) rfl (fun X hX _ => c_X12_allPurses_0 hX hO hΩ   σ )
def it_X12_value_ : List (Nat × Instr × Nat × Nat) := [(0, .aload_n 0, 1, 1), (1, .iload_n 1, 1, 2), (2, .invokevirtual 454, 3, 5), (5, .ifCond .eq 15, 3, 8), (8, .iload_n 2, 1, 9), (9, .i2l, 1, 10), (10, .lconst 1, 1, 11), (11, .ldc2_w 206, 3, 14), (14, .invokestatic 161, 3, 17), (17, .ifCond .ne 7, 3, 20), (20, .ldc_w 485, 3, 23), (23, .ireturn, 1, 24), (24, .aload_n 0, 1, 25), (25, .invokevirtual 462, 3, 28), (28, .aload_n 0, 1, 29), (29, .iload_n 2, 1, 30), (30, .invokevirtual 465, 3, 33), (33, .pop, 1, 34), (34, .aload_n 0, 1, 35), (35, .invokevirtual 486, 3, 38), (38, .istore_n 3, 1, 39), (39, .aload_n 0, 1, 40), (40, .invokevirtual 468, 3, 43), (43, .aload_n 0, 1, 44), (44, .iload_n 1, 1, 45), (45, .invokevirtual 419, 3, 48), (48, .aload_n 0, 1, 49), (49, .iload_n 2, 1, 50), (50, .invokevirtual 465, 3, 53), (53, .pop, 1, 54), (54, .iload_n 3, 1, 55), (55, .aload_n 0, 1, 56), (56, .invokevirtual 486, 3, 59), (59, .isub, 1, 60), (60, .istore 4, 2, 62), (62, .aload_n 0, 1, 63), (63, .invokevirtual 468, 3, 66), (66, .iload 4, 2, 68), (68, .ireturn, 1, 69)]
theorem id_X12_value_ : ∀ q ∈ it_X12_value_, decode cX12_value_ q.1 = .ok (q.2.1, q.2.2.1) ∧ q.1 + q.2.2.1 = q.2.2.2 := by decide +kernel
theorem dc_X12_value_ {pc : Nat} {i : Instr} {n pc' : Nat} (j : Nat) (h : it_X12_value_[j]? = some (pc, i, n, pc')) : Dc cX12_value_ pc i n pc' := dc_of id_X12_value_ j h
abbrev rm_X12_value_ : Room := { frames := 8, cells := 0, slots := 0, locals := 188 }
def b_X12_value__20     (σ : MS) : Option (Int32 × MS) := some ((-100000 : Int32), σ)
set_option maxHeartbeats 4000000 in
set_option maxRecDepth 20000 in
theorem c_X12_value__20 {X : CX} {Ω : OM} (hX : CF X Ω RX12 cX12_value_ 5 (some .int) rm_X12_value_) (hO : OKO Ω) (hΩ : oSH Ω = SHM)      (σ : MS)  : GE X Ω 5 0 0 (emWI) 0 0 20 [] [] σ (b_X12_value__20  σ) := by
  unfold b_X12_value__20
  refine g_ldcw hX (dc_X12_value_ 10 rfl) wk_X12_485 ?_
  exact g_iret hX (dc_X12_value_ 11 rfl) rfl rfl (Nat.le_refl _) (Nat.le_refl _)
def b_X12_value__0   (x1 : Int32) (x2 : Int32)  (σ : MS) : Option (Int32 × MS) := (f_X12_doesGo x1 σ).bind (fun r13 => (if r13 = 0 then (b_X12_value__20 σ) else (f_X12_in (x2).toInt64 (1 : Int64) (48 : Int64)).bind (fun r15 => (if r15 = 0 then (b_X12_value__20 σ) else (f_X12_keepsAll σ).bind (fun r17 => (f_X12_goFor x2 r17).bind (fun r18 => (f_X12_allPurses r18.2).bind (fun r19 => (f_X12_laysBack r18.2).bind (fun r20 => (f_X12_drops x1 r20).bind (fun r21 => (f_X12_goFor x2 r21).bind (fun r22 => (f_X12_allPurses r22.2).bind (fun r23 => (f_X12_laysBack r22.2).bind (fun r24 => some ((r19 - r23), r24)))))))))))))
set_option maxHeartbeats 4000000 in
set_option maxRecDepth 20000 in
theorem c_X12_value__0 {X : CX} {Ω : OM} (hX : CF X Ω RX12 cX12_value_ 5 (some .int) rm_X12_value_) (hO : OKO Ω) (hΩ : oSH Ω = SHM)    (x1 : Int32) (x2 : Int32)  (σ : MS)  : GE X Ω 5 0 0 (emWI) 0 0 0 [(0, .ref 0), (1, .int x1), (2, .int x2)] [] σ (b_X12_value__0  x1 x2 σ) := by
  unfold b_X12_value__0
  refine g_aload_n hX (dc_X12_value_ 0 rfl) rfl 0 rfl ?_
  refine g_iload_n hX (dc_X12_value_ 1 rfl) rfl 1 rfl ?_
  refine gV_PI (As := [.int x1]) (st := []) hX (dc_X12_value_ 2 rfl) ml_X12_454 (con_X12_doesGo hO hΩ x1 σ) (stS hΩ 0 rfl) rfl rfl ⟨by decide, by decide⟩ ⟨rfl, rfl⟩ ⟨Nat.zero_le _, Nat.zero_le _⟩ (Nat.le_of_ble_eq_true rfl) (fun r13 _ => ?_)
  refine g_if_eq (tgt := 20) hX (dc_X12_value_ 3 rfl) (by decide) (fun h14 => ?_) (fun h14 => ?_)
  · exact g_sub [] rfl (c_X12_value__20 hX hO hΩ σ)
  · refine g_iload_n hX (dc_X12_value_ 4 rfl) rfl 2 rfl ?_
    refine g_i2l hX (dc_X12_value_ 5 rfl) ?_
    refine g_lconst (w := (1 : Int64)) hX (dc_X12_value_ 6 rfl) (by decide) ?_
    refine g_ldc2 hX (dc_X12_value_ 7 rfl) wk_X12_206 ?_
    refine gS_PI (As := [.long (x2).toInt64, .long (1 : Int64), .long (48 : Int64)]) (st := []) hX (dc_X12_value_ 8 rfl) ml_X12_161 (con_X12_in hO hΩ (x2).toInt64 (1 : Int64) (48 : Int64) σ) rfl rfl ⟨by decide, by decide⟩ ⟨rfl, rfl⟩ ⟨Nat.zero_le _, Nat.zero_le _⟩ (Nat.le_of_ble_eq_true rfl) (fun r15 _ => ?_)
    refine g_if_ne (tgt := 24) hX (dc_X12_value_ 9 rfl) (by decide) (fun h16 => ?_) (fun h16 => ?_)
    · exact g_sub [] rfl (c_X12_value__20 hX hO hΩ σ)
    · refine g_aload_n hX (dc_X12_value_ 12 rfl) rfl 0 rfl ?_
      refine gV_WV (As := []) (st := []) hX (dc_X12_value_ 13 rfl) ml_X12_462 (con_X12_keepsAll hO hΩ σ) (stS hΩ 0 rfl) rfl rfl ⟨by decide, by decide⟩ ⟨rfl, rfl⟩ ⟨Nat.zero_le _, Nat.zero_le _⟩ (Nat.le_of_ble_eq_true rfl) (fun r17 _ => ?_)
      refine g_aload_n hX (dc_X12_value_ 14 rfl) rfl 0 rfl ?_
      refine g_iload_n hX (dc_X12_value_ 15 rfl) rfl 2 rfl ?_
      refine gV_WI (As := [.int x2]) (st := []) hX (dc_X12_value_ 16 rfl) ml_X12_465 (con_X12_goFor hO hΩ x2 r17) (stS hΩ 0 rfl) rfl rfl ⟨by decide, by decide⟩ ⟨rfl, rfl⟩ ⟨Nat.zero_le _, Nat.zero_le _⟩ (Nat.le_of_ble_eq_true rfl) (fun r18 _ => ?_)
      refine g_pop hX (dc_X12_value_ 17 rfl) rfl ?_
      refine g_aload_n hX (dc_X12_value_ 18 rfl) rfl 0 rfl ?_
      refine gV_PI (As := []) (st := []) hX (dc_X12_value_ 19 rfl) ml_X12_486 (con_X12_allPurses hO hΩ r18.2) (stS hΩ 0 rfl) rfl rfl ⟨by decide, by decide⟩ ⟨rfl, rfl⟩ ⟨Nat.zero_le _, Nat.zero_le _⟩ (Nat.le_of_ble_eq_true rfl) (fun r19 _ => ?_)
      refine g_istore_n (L' := [(3, .int r19), (0, .ref 0), (1, .int x1), (2, .int x2)]) hX (dc_X12_value_ 20 rfl) rfl (by decide) rfl ?_
      refine g_aload_n hX (dc_X12_value_ 21 rfl) rfl 1 rfl ?_
      refine gV_WV (As := []) (st := []) hX (dc_X12_value_ 22 rfl) ml_X12_468 (con_X12_laysBack hO hΩ r18.2) (stS hΩ 0 rfl) rfl rfl ⟨by decide, by decide⟩ ⟨rfl, rfl⟩ ⟨Nat.zero_le _, Nat.zero_le _⟩ (Nat.le_of_ble_eq_true rfl) (fun r20 _ => ?_)
      refine g_aload_n hX (dc_X12_value_ 23 rfl) rfl 1 rfl ?_
      refine g_iload_n hX (dc_X12_value_ 24 rfl) rfl 2 rfl ?_
      refine gV_WV (As := [.int x1]) (st := []) hX (dc_X12_value_ 25 rfl) ml_X12_419 (con_X12_drops hO hΩ x1 r20) (stS hΩ 0 rfl) rfl rfl ⟨by decide, by decide⟩ ⟨rfl, rfl⟩ ⟨Nat.zero_le _, Nat.zero_le _⟩ (Nat.le_of_ble_eq_true rfl) (fun r21 _ => ?_)
      refine g_aload_n hX (dc_X12_value_ 26 rfl) rfl 1 rfl ?_
      refine g_iload_n hX (dc_X12_value_ 27 rfl) rfl 3 rfl ?_
      refine gV_WI (As := [.int x2]) (st := []) hX (dc_X12_value_ 28 rfl) ml_X12_465 (con_X12_goFor hO hΩ x2 r21) (stS hΩ 0 rfl) rfl rfl ⟨by decide, by decide⟩ ⟨rfl, rfl⟩ ⟨Nat.zero_le _, Nat.zero_le _⟩ (Nat.le_of_ble_eq_true rfl) (fun r22 _ => ?_)
      refine g_pop hX (dc_X12_value_ 29 rfl) rfl ?_
      refine g_iload_n hX (dc_X12_value_ 30 rfl) rfl 0 rfl ?_
      refine g_aload_n hX (dc_X12_value_ 31 rfl) rfl 1 rfl ?_
      refine gV_PI (As := []) (st := [.int r19]) hX (dc_X12_value_ 32 rfl) ml_X12_486 (con_X12_allPurses hO hΩ r22.2) (stS hΩ 0 rfl) rfl rfl ⟨by decide, by decide⟩ ⟨rfl, rfl⟩ ⟨Nat.zero_le _, Nat.zero_le _⟩ (Nat.le_of_ble_eq_true rfl) (fun r23 _ => ?_)
      refine g_isub hX (dc_X12_value_ 33 rfl) ?_
      refine g_istore (L' := [(4, .int (r19 - r23)), (3, .int r19), (0, .ref 0), (1, .int x1), (2, .int x2)]) hX (dc_X12_value_ 34 rfl) (by decide) rfl ?_
      refine g_aload_n hX (dc_X12_value_ 35 rfl) rfl 2 rfl ?_
      refine gV_WV (As := []) (st := []) hX (dc_X12_value_ 36 rfl) ml_X12_468 (con_X12_laysBack hO hΩ r22.2) (stS hΩ 0 rfl) rfl rfl ⟨by decide, by decide⟩ ⟨rfl, rfl⟩ ⟨Nat.zero_le _, Nat.zero_le _⟩ (Nat.le_of_ble_eq_true rfl) (fun r24 _ => ?_)
      refine g_iload hX (dc_X12_value_ 37 rfl) 0 rfl ?_
      exact g_iret hX (dc_X12_value_ 38 rfl) rfl rfl (Nat.le_refl _) (Nat.le_refl _)
def f_X12_value_ (x1 : Int32) (x2 : Int32) (σ : MS) : Option (Int32 × MS) := b_X12_value__0  x1 x2 σ
theorem con_X12_value_ {Ω : OM} (hO : OKO Ω) (hΩ : oSH Ω = SHM) (x1 : Int32) (x2 : Int32) (σ : MS)  : Con Ω yX12_value_ cX12_value_ 5 (some .int) rm_X12_value_ (emWI) [.ref 0, .int x1, .int x2] σ (f_X12_value_ x1 x2 σ) :=
  con_of hO (by decide +kernel) (Nat.le_of_ble_eq_true rfl) rfl (fun X hX _ => c_X12_value__0 hX hO hΩ   x1 x2 σ )
def it_X12_watch : List (Nat × Instr × Nat × Nat) := [(0, .aload_n 0, 1, 1), (1, .getfield 341, 3, 4), (4, .ifCond .eq 15, 3, 7), (7, .iload_n 1, 1, 8), (8, .i2l, 1, 9), (9, .lconst 0, 1, 10), (10, .ldc2_w 489, 3, 13), (13, .invokestatic 161, 3, 16), (16, .ifCond .ne 5, 3, 19), (19, .iconst (-1), 1, 20), (20, .ireturn, 1, 21), (21, .iconst 0, 1, 22), (22, .istore_n 2, 1, 23), (23, .iload_n 2, 1, 24), (24, .bipush 24, 2, 26), (26, .if_icmp .ge 78, 3, 29), (29, .iconst 0, 1, 30), (30, .istore_n 3, 1, 31), (31, .iconst 0, 1, 32), (32, .istore 4, 2, 34), (34, .iload 4, 2, 36), (36, .bipush 24, 2, 38), (38, .if_icmp .ge 53, 3, 41), (41, .aload_n 0, 1, 42), (42, .iload 4, 2, 44), (44, .invokevirtual 491, 3, 47), (47, .invokestatic 387, 3, 50), (50, .aload_n 0, 1, 51), (51, .iload_n 2, 1, 52), (52, .invokevirtual 491, 3, 55), (55, .invokestatic 387, 3, 58), (58, .isub, 1, 59), (59, .istore 5, 2, 61), (61, .iload_n 3, 1, 62), (62, .iload 5, 2, 64), (64, .ifCond .lt 14, 3, 67), (67, .iload 5, 2, 69), (69, .ifCond .ne 13, 3, 72), (72, .iload 4, 2, 74), (74, .iload_n 2, 1, 75), (75, .if_icmp .ge 7, 3, 78), (78, .iconst 1, 1, 79), (79, .goto 4, 3, 82), (82, .iconst 0, 1, 83), (83, .iadd, 1, 84), (84, .istore_n 3, 1, 85), (85, .iinc 4 1, 3, 88), (88, .goto (-54), 3, 91), (91, .iload_n 3, 1, 92), (92, .iload_n 1, 1, 93), (93, .if_icmp .ne 5, 3, 96), (96, .iload_n 2, 1, 97), (97, .ireturn, 1, 98), (98, .iinc 2 1, 3, 101), (101, .goto (-78), 3, 104), (104, .iconst (-1), 1, 105), (105, .ireturn, 1, 106)]
theorem id_X12_watch : ∀ q ∈ it_X12_watch, decode cX12_watch q.1 = .ok (q.2.1, q.2.2.1) ∧ q.1 + q.2.2.1 = q.2.2.2 := by decide +kernel
theorem dc_X12_watch {pc : Nat} {i : Instr} {n pc' : Nat} (j : Nat) (h : it_X12_watch[j]? = some (pc, i, n, pc')) : Dc cX12_watch pc i n pc' := dc_of id_X12_watch j h
abbrev rm_X12_watch : Room := { frames := 2, cells := 0, slots := 0, locals := 46 }
def b_X12_watch_83  (k23 : Int32 → Int32 → MS → Option (Int32)) (k34 : Int32 → Int32 → Int32 → Int32 → MS → Option (Int32))  (y1 : Int32) (y2 : Int32) (y4 : Int32) (s0 : Int32) (s1 : Int32) (σ : MS) : Option (Int32) := (k34 (y1) (y2) ((s1 + s0)) ((y4 + (1 : Int32))) σ)
set_option maxHeartbeats 4000000 in
set_option maxRecDepth 20000 in
theorem c_X12_watch_83 {X : CX} {Ω : OM} (hX : CF X Ω RX12 cX12_watch 6 (some .int) rm_X12_watch) (hO : OKO Ω) (hΩ : oSH Ω = SHM)   (σ : MS) (k23 : Int32 → Int32 → MS → Option (Int32)) (hk23 : ∀ (y1 : Int32) (y2 : Int32), GE X Ω 6 0 0 (emPI σ) 0 0 23 [(0, .ref 0), (1, .int y1), (2, .int y2)] [] σ (k23 y1 y2 σ)) (k34 : Int32 → Int32 → Int32 → Int32 → MS → Option (Int32)) (hk34 : ∀ (y1 : Int32) (y2 : Int32) (y3 : Int32) (y4 : Int32), GE X Ω 6 0 0 (emPI σ) 0 0 34 [(0, .ref 0), (1, .int y1), (2, .int y2), (3, .int y3), (4, .int y4)] [] σ (k34 y1 y2 y3 y4 σ))  (y1 : Int32) (y2 : Int32) (y4 : Int32) (s0 : Int32) (s1 : Int32)   : GE X Ω 6 0 0 (emPI σ) 0 0 83 [(0, .ref 0), (1, .int y1), (2, .int y2), (4, .int y4)] [.int s0, .int s1] σ (b_X12_watch_83  k23 k34 y1 y2 y4 s0 s1 σ) := by
  unfold b_X12_watch_83
  refine g_iadd hX (dc_X12_watch 44 rfl) ?_
  refine g_istore_n (L' := [(3, .int (s1 + s0)), (0, .ref 0), (1, .int y1), (2, .int y2), (4, .int y4)]) hX (dc_X12_watch 45 rfl) rfl (by decide) rfl ?_
  refine g_iinc (w := (y4 + (1 : Int32))) (L' := [(4, .int (y4 + (1 : Int32))), (3, .int (s1 + s0)), (0, .ref 0), (1, .int y1), (2, .int y2)]) hX (dc_X12_watch 46 rfl) 4 rfl rfl (by decide) rfl ?_
  refine g_goto (tgt := 34) hX (dc_X12_watch 47 rfl) (by decide) ?_
  exact g_sub [2, 3, 4, 1, 0] rfl (hk34 (y1) (y2) ((s1 + s0)) ((y4 + (1 : Int32))) )
def b_X12_watch_82  (k23 : Int32 → Int32 → MS → Option (Int32)) (k34 : Int32 → Int32 → Int32 → Int32 → MS → Option (Int32))  (y1 : Int32) (y2 : Int32) (y4 : Int32) (s0 : Int32) (σ : MS) : Option (Int32) := (b_X12_watch_83 k23 k34 (y1) (y2) (y4) ((0 : Int32)) (s0) σ)
set_option maxHeartbeats 4000000 in
set_option maxRecDepth 20000 in
theorem c_X12_watch_82 {X : CX} {Ω : OM} (hX : CF X Ω RX12 cX12_watch 6 (some .int) rm_X12_watch) (hO : OKO Ω) (hΩ : oSH Ω = SHM)   (σ : MS) (k23 : Int32 → Int32 → MS → Option (Int32)) (hk23 : ∀ (y1 : Int32) (y2 : Int32), GE X Ω 6 0 0 (emPI σ) 0 0 23 [(0, .ref 0), (1, .int y1), (2, .int y2)] [] σ (k23 y1 y2 σ)) (k34 : Int32 → Int32 → Int32 → Int32 → MS → Option (Int32)) (hk34 : ∀ (y1 : Int32) (y2 : Int32) (y3 : Int32) (y4 : Int32), GE X Ω 6 0 0 (emPI σ) 0 0 34 [(0, .ref 0), (1, .int y1), (2, .int y2), (3, .int y3), (4, .int y4)] [] σ (k34 y1 y2 y3 y4 σ))  (y1 : Int32) (y2 : Int32) (y4 : Int32) (s0 : Int32)   : GE X Ω 6 0 0 (emPI σ) 0 0 82 [(0, .ref 0), (1, .int y1), (2, .int y2), (4, .int y4)] [.int s0] σ (b_X12_watch_82  k23 k34 y1 y2 y4 s0 σ) := by
  unfold b_X12_watch_82
  refine g_iconst (w := (0 : Int32)) hX (dc_X12_watch 43 rfl) (by decide) ?_
  exact g_sub [0, 1, 2, 3] rfl (c_X12_watch_83 hX hO hΩ σ _ hk23 _ hk34 (y1) (y2) (y4) ((0 : Int32)) (s0))
def b_X12_watch_78  (k23 : Int32 → Int32 → MS → Option (Int32)) (k34 : Int32 → Int32 → Int32 → Int32 → MS → Option (Int32))  (y1 : Int32) (y2 : Int32) (y4 : Int32) (s0 : Int32) (σ : MS) : Option (Int32) := (b_X12_watch_83 k23 k34 (y1) (y2) (y4) ((1 : Int32)) (s0) σ)
set_option maxHeartbeats 4000000 in
set_option maxRecDepth 20000 in
theorem c_X12_watch_78 {X : CX} {Ω : OM} (hX : CF X Ω RX12 cX12_watch 6 (some .int) rm_X12_watch) (hO : OKO Ω) (hΩ : oSH Ω = SHM)   (σ : MS) (k23 : Int32 → Int32 → MS → Option (Int32)) (hk23 : ∀ (y1 : Int32) (y2 : Int32), GE X Ω 6 0 0 (emPI σ) 0 0 23 [(0, .ref 0), (1, .int y1), (2, .int y2)] [] σ (k23 y1 y2 σ)) (k34 : Int32 → Int32 → Int32 → Int32 → MS → Option (Int32)) (hk34 : ∀ (y1 : Int32) (y2 : Int32) (y3 : Int32) (y4 : Int32), GE X Ω 6 0 0 (emPI σ) 0 0 34 [(0, .ref 0), (1, .int y1), (2, .int y2), (3, .int y3), (4, .int y4)] [] σ (k34 y1 y2 y3 y4 σ))  (y1 : Int32) (y2 : Int32) (y4 : Int32) (s0 : Int32)   : GE X Ω 6 0 0 (emPI σ) 0 0 78 [(0, .ref 0), (1, .int y1), (2, .int y2), (4, .int y4)] [.int s0] σ (b_X12_watch_78  k23 k34 y1 y2 y4 s0 σ) := by
  unfold b_X12_watch_78
  refine g_iconst (w := (1 : Int32)) hX (dc_X12_watch 41 rfl) (by decide) ?_
  refine g_goto (tgt := 83) hX (dc_X12_watch 42 rfl) (by decide) ?_
  exact g_sub [0, 1, 2, 3] rfl (c_X12_watch_83 hX hO hΩ σ _ hk23 _ hk34 (y1) (y2) (y4) ((1 : Int32)) (s0))
def b_X12_watch_34  (k23 : Int32 → Int32 → MS → Option (Int32)) : Nat → Int32 → Int32 → Int32 → Int32 → MS → Option (Int32)
  | 0, _, _, _, _, _ => none
  | n + 1, y1, y2, y3, y4, σ => (if (24 : Int32) ≤ y4 then (if y3 = y1 then some y2 else (k23 (y1) ((y2 + (1 : Int32))) σ)) else (f_X12_awakeAt y4 σ).bind (fun r16 => (f_X12_bits r16).bind (fun r17 => (f_X12_awakeAt y2 σ).bind (fun r18 => (f_X12_bits r18).bind (fun r19 => (if (r17 - r19) < 0 then (b_X12_watch_78 k23 (b_X12_watch_34  k23 n) (y1) (y2) (y4) (y3) σ) else (if (r17 - r19) = 0 then (if y2 ≤ y4 then (b_X12_watch_82 k23 (b_X12_watch_34  k23 n) (y1) (y2) (y4) (y3) σ) else (b_X12_watch_78 k23 (b_X12_watch_34  k23 n) (y1) (y2) (y4) (y3) σ)) else (b_X12_watch_82 k23 (b_X12_watch_34  k23 n) (y1) (y2) (y4) (y3) σ))))))))
set_option maxHeartbeats 4000000 in
set_option maxRecDepth 20000 in
theorem c_X12_watch_34 {X : CX} {Ω : OM} (hX : CF X Ω RX12 cX12_watch 6 (some .int) rm_X12_watch) (hO : OKO Ω) (hΩ : oSH Ω = SHM)   (σ : MS) (k23 : Int32 → Int32 → MS → Option (Int32)) (hk23 : ∀ (y1 : Int32) (y2 : Int32), GE X Ω 6 0 0 (emPI σ) 0 0 23 [(0, .ref 0), (1, .int y1), (2, .int y2)] [] σ (k23 y1 y2 σ)) : ∀ (n : Nat) (y1 : Int32) (y2 : Int32) (y3 : Int32) (y4 : Int32)  , GE X Ω 6 0 0 (emPI σ) 0 0 34 [(0, .ref 0), (1, .int y1), (2, .int y2), (3, .int y3), (4, .int y4)] [] σ (b_X12_watch_34  k23 n y1 y2 y3 y4 σ)
  | 0, _, _, _, _ => g_none
  | n + 1, y1, y2, y3, y4 => by
    have hk34 := c_X12_watch_34 hX hO hΩ  σ k23 hk23 n
    unfold b_X12_watch_34
    refine g_iload hX (dc_X12_watch 20 rfl) 4 rfl ?_
    refine g_bipush (w := (24 : Int32)) hX (dc_X12_watch 21 rfl) (by decide) ?_
    refine g_icmp_ge (tgt := 91) hX (dc_X12_watch 22 rfl) (by decide) (fun h14 => ?_) (fun h14 => ?_)
    · refine g_iload_n hX (dc_X12_watch 48 rfl) rfl 3 rfl ?_
      refine g_iload_n hX (dc_X12_watch 49 rfl) rfl 1 rfl ?_
      refine g_icmp_ne (tgt := 98) hX (dc_X12_watch 50 rfl) (by decide) (fun h15 => ?_) (fun h15 => ?_)
      · refine g_iload_n hX (dc_X12_watch 51 rfl) rfl 2 rfl ?_
        exact g_iret hX (dc_X12_watch 52 rfl) rfl rfl (Nat.le_refl _) (Nat.le_refl _)
      · refine g_iinc (w := (y2 + (1 : Int32))) (L' := [(2, .int (y2 + (1 : Int32))), (0, .ref 0), (1, .int y1), (3, .int y3), (4, .int y4)]) hX (dc_X12_watch 53 rfl) 2 rfl rfl (by decide) rfl ?_
        refine g_goto (tgt := 23) hX (dc_X12_watch 54 rfl) (by decide) ?_
        exact g_sub [1, 2, 0] rfl (hk23 (y1) ((y2 + (1 : Int32))) )
    · refine g_aload_n hX (dc_X12_watch 23 rfl) rfl 0 rfl ?_
      refine g_iload hX (dc_X12_watch 24 rfl) 4 rfl ?_
      refine gV_PI (As := [.int y4]) (st := []) hX (dc_X12_watch 25 rfl) ml_X12_491 (con_X12_awakeAt hO hΩ y4 σ) (stS hΩ 0 rfl) rfl rfl ⟨by decide, by decide⟩ ⟨rfl, rfl⟩ ⟨Nat.zero_le _, Nat.zero_le _⟩ (Nat.le_of_ble_eq_true rfl) (fun r16 _ => ?_)
      refine gS_PI (As := [.int r16]) (st := []) hX (dc_X12_watch 26 rfl) ml_X12_387 (con_X12_bits hO hΩ r16 σ) rfl rfl ⟨by decide, by decide⟩ ⟨rfl, rfl⟩ ⟨Nat.zero_le _, Nat.zero_le _⟩ (Nat.le_of_ble_eq_true rfl) (fun r17 _ => ?_)
      refine g_aload_n hX (dc_X12_watch 27 rfl) rfl 0 rfl ?_
      refine g_iload_n hX (dc_X12_watch 28 rfl) rfl 2 rfl ?_
      refine gV_PI (As := [.int y2]) (st := [.int r17]) hX (dc_X12_watch 29 rfl) ml_X12_491 (con_X12_awakeAt hO hΩ y2 σ) (stS hΩ 0 rfl) rfl rfl ⟨by decide, by decide⟩ ⟨rfl, rfl⟩ ⟨Nat.zero_le _, Nat.zero_le _⟩ (Nat.le_of_ble_eq_true rfl) (fun r18 _ => ?_)
      refine gS_PI (As := [.int r18]) (st := [.int r17]) hX (dc_X12_watch 30 rfl) ml_X12_387 (con_X12_bits hO hΩ r18 σ) rfl rfl ⟨by decide, by decide⟩ ⟨rfl, rfl⟩ ⟨Nat.zero_le _, Nat.zero_le _⟩ (Nat.le_of_ble_eq_true rfl) (fun r19 _ => ?_)
      refine g_isub hX (dc_X12_watch 31 rfl) ?_
      refine g_istore (L' := [(5, .int (r17 - r19)), (0, .ref 0), (1, .int y1), (2, .int y2), (3, .int y3), (4, .int y4)]) hX (dc_X12_watch 32 rfl) (by decide) rfl ?_
      refine g_iload_n hX (dc_X12_watch 33 rfl) rfl 4 rfl ?_
      refine g_iload hX (dc_X12_watch 34 rfl) 0 rfl ?_
      refine g_if_lt (tgt := 78) hX (dc_X12_watch 35 rfl) (by decide) (fun h20 => ?_) (fun h20 => ?_)
      · exact g_sub [1, 2, 3, 5] rfl (c_X12_watch_78 hX hO hΩ σ _ hk23 _ hk34 (y1) (y2) (y4) (y3))
      · refine g_iload hX (dc_X12_watch 36 rfl) 0 rfl ?_
        refine g_if_ne (tgt := 82) hX (dc_X12_watch 37 rfl) (by decide) (fun h21 => ?_) (fun h21 => ?_)
        · refine g_iload hX (dc_X12_watch 38 rfl) 5 rfl ?_
          refine g_iload_n hX (dc_X12_watch 39 rfl) rfl 3 rfl ?_
          refine g_icmp_ge (tgt := 82) hX (dc_X12_watch 40 rfl) (by decide) (fun h22 => ?_) (fun h22 => ?_)
          · exact g_sub [1, 2, 3, 5] rfl (c_X12_watch_82 hX hO hΩ σ _ hk23 _ hk34 (y1) (y2) (y4) (y3))
          · exact g_sub [1, 2, 3, 5] rfl (c_X12_watch_78 hX hO hΩ σ _ hk23 _ hk34 (y1) (y2) (y4) (y3))
        · exact g_sub [1, 2, 3, 5] rfl (c_X12_watch_82 hX hO hΩ σ _ hk23 _ hk34 (y1) (y2) (y4) (y3))
def b_X12_watch_23   : Nat → Int32 → Int32 → MS → Option (Int32)
  | 0, _, _, _ => none
  | n + 1, y1, y2, σ => (if (24 : Int32) ≤ y2 then some (-1 : Int32) else (b_X12_watch_34 (b_X12_watch_23  n) FU (y1) (y2) ((0 : Int32)) ((0 : Int32)) σ))
set_option maxHeartbeats 4000000 in
set_option maxRecDepth 20000 in
theorem c_X12_watch_23 {X : CX} {Ω : OM} (hX : CF X Ω RX12 cX12_watch 6 (some .int) rm_X12_watch) (hO : OKO Ω) (hΩ : oSH Ω = SHM)   (σ : MS)  : ∀ (n : Nat) (y1 : Int32) (y2 : Int32)  , GE X Ω 6 0 0 (emPI σ) 0 0 23 [(0, .ref 0), (1, .int y1), (2, .int y2)] [] σ (b_X12_watch_23  n y1 y2 σ)
  | 0, _, _ => g_none
  | n + 1, y1, y2 => by
    have hk23 := c_X12_watch_23 hX hO hΩ  σ n
    unfold b_X12_watch_23
    refine g_iload_n hX (dc_X12_watch 13 rfl) rfl 2 rfl ?_
    refine g_bipush (w := (24 : Int32)) hX (dc_X12_watch 14 rfl) (by decide) ?_
    refine g_icmp_ge (tgt := 104) hX (dc_X12_watch 15 rfl) (by decide) (fun h23 => ?_) (fun h23 => ?_)
    · refine g_iconst (w := (-1 : Int32)) hX (dc_X12_watch 55 rfl) (by decide) ?_
      exact g_iret hX (dc_X12_watch 56 rfl) rfl rfl (Nat.le_refl _) (Nat.le_refl _)
    · refine g_iconst (w := (0 : Int32)) hX (dc_X12_watch 16 rfl) (by decide) ?_
      refine g_istore_n (L' := [(3, .int (0 : Int32)), (0, .ref 0), (1, .int y1), (2, .int y2)]) hX (dc_X12_watch 17 rfl) rfl (by decide) rfl ?_
      refine g_iconst (w := (0 : Int32)) hX (dc_X12_watch 18 rfl) (by decide) ?_
      refine g_istore (L' := [(4, .int (0 : Int32)), (3, .int (0 : Int32)), (0, .ref 0), (1, .int y1), (2, .int y2)]) hX (dc_X12_watch 19 rfl) (by decide) rfl ?_
      exact g_sub [2, 3, 4, 1, 0] rfl (c_X12_watch_34 hX hO hΩ σ _ hk23 FU (y1) (y2) ((0 : Int32)) ((0 : Int32)))
def b_X12_watch_19     (σ : MS) : Option (Int32) := some (-1 : Int32)
set_option maxHeartbeats 4000000 in
set_option maxRecDepth 20000 in
theorem c_X12_watch_19 {X : CX} {Ω : OM} (hX : CF X Ω RX12 cX12_watch 6 (some .int) rm_X12_watch) (hO : OKO Ω) (hΩ : oSH Ω = SHM)   (σ : MS)      : GE X Ω 6 0 0 (emPI σ) 0 0 19 [] [] σ (b_X12_watch_19  σ) := by
  unfold b_X12_watch_19
  refine g_iconst (w := (-1 : Int32)) hX (dc_X12_watch 9 rfl) (by decide) ?_
  exact g_iret hX (dc_X12_watch 10 rfl) rfl rfl (Nat.le_refl _) (Nat.le_refl _)
def b_X12_watch_0   (x1 : Int32)  (σ : MS) : Option (Int32) := (if (sI σ 0 28) = 0 then (b_X12_watch_19 σ) else (f_X12_in (x1).toInt64 (0 : Int64) (23 : Int64)).bind (fun r25 => (if r25 = 0 then (b_X12_watch_19 σ) else (b_X12_watch_23 FU (x1) ((0 : Int32)) σ))))
set_option maxHeartbeats 4000000 in
set_option maxRecDepth 20000 in
theorem c_X12_watch_0 {X : CX} {Ω : OM} (hX : CF X Ω RX12 cX12_watch 6 (some .int) rm_X12_watch) (hO : OKO Ω) (hΩ : oSH Ω = SHM)   (σ : MS)  (x1 : Int32)    : GE X Ω 6 0 0 (emPI σ) 0 0 0 [(0, .ref 0), (1, .int x1)] [] σ (b_X12_watch_0  x1 σ) := by
  unfold b_X12_watch_0
  refine g_aload_n hX (dc_X12_watch 0 rfl) rfl 0 rfl ?_
  refine g_getI hX (dc_X12_watch 1 rfl) fl_X12_341 (by decide) rfl (stS hΩ 0 rfl) ?_
  refine g_if_eq (tgt := 19) hX (dc_X12_watch 2 rfl) (by decide) (fun h24 => ?_) (fun h24 => ?_)
  · exact g_sub [] rfl (c_X12_watch_19 hX hO hΩ σ)
  · refine g_iload_n hX (dc_X12_watch 3 rfl) rfl 1 rfl ?_
    refine g_i2l hX (dc_X12_watch 4 rfl) ?_
    refine g_lconst (w := (0 : Int64)) hX (dc_X12_watch 5 rfl) (by decide) ?_
    refine g_ldc2 hX (dc_X12_watch 6 rfl) wk_X12_489 ?_
    refine gS_PI (As := [.long (x1).toInt64, .long (0 : Int64), .long (23 : Int64)]) (st := []) hX (dc_X12_watch 7 rfl) ml_X12_161 (con_X12_in hO hΩ (x1).toInt64 (0 : Int64) (23 : Int64) σ) rfl rfl ⟨by decide, by decide⟩ ⟨rfl, rfl⟩ ⟨Nat.zero_le _, Nat.zero_le _⟩ (Nat.le_of_ble_eq_true rfl) (fun r25 _ => ?_)
    refine g_if_ne (tgt := 21) hX (dc_X12_watch 8 rfl) (by decide) (fun h26 => ?_) (fun h26 => ?_)
    · exact g_sub [] rfl (c_X12_watch_19 hX hO hΩ σ)
    · refine g_iconst (w := (0 : Int32)) hX (dc_X12_watch 11 rfl) (by decide) ?_
      refine g_istore_n (L' := [(2, .int (0 : Int32)), (0, .ref 0), (1, .int x1)]) hX (dc_X12_watch 12 rfl) rfl (by decide) rfl ?_
      exact g_sub [1, 2, 0] rfl (c_X12_watch_23 hX hO hΩ σ FU (x1) ((0 : Int32)))
def f_X12_watch (x1 : Int32) (σ : MS) : Option (Int32) := b_X12_watch_0  x1 σ
theorem con_X12_watch {Ω : OM} (hO : OKO Ω) (hΩ : oSH Ω = SHM) (x1 : Int32) (σ : MS)  : Con Ω yX12_watch cX12_watch 6 (some .int) rm_X12_watch (emPI σ) [.ref 0, .int x1] σ (f_X12_watch x1 σ) :=
  con_of hO (by decide +kernel) (Nat.le_of_ble_eq_true rfl) rfl (fun X hX _ => c_X12_watch_0 hX hO hΩ   σ x1)
def it_X12_log : List (Nat × Instr × Nat × Nat) := [(0, .iload_n 1, 1, 1), (1, .iconst (-1), 1, 2), (2, .if_icmp .ne 13, 3, 5), (5, .aload_n 0, 1, 6), (6, .getfield 9, 3, 9), (9, .bipush 7, 2, 11), (11, .iconst 0, 1, 12), (12, .iastore, 1, 13), (13, .iconst 0, 1, 14), (14, .ireturn, 1, 15), (15, .aload_n 0, 1, 16), (16, .getfield 9, 3, 19), (19, .bipush 7, 2, 21), (21, .iaload, 1, 22), (22, .istore 4, 2, 24), (24, .iload_n 1, 1, 25), (25, .i2l, 1, 26), (26, .lconst 0, 1, 27), (27, .ldc2_w 494, 3, 30), (30, .invokestatic 161, 3, 33), (33, .ifCond .eq 31, 3, 36), (36, .aload_n 0, 1, 37), (37, .iload_n 2, 1, 38), (38, .invokevirtual 165, 3, 41), (41, .ifCond .eq 23, 3, 44), (44, .iload_n 3, 1, 45), (45, .iconst (-1), 1, 46), (46, .if_icmp .eq 11, 3, 49), (49, .aload_n 0, 1, 50), (50, .iload_n 3, 1, 51), (51, .invokevirtual 393, 3, 54), (54, .ifCond .eq 10, 3, 57), (57, .iload 4, 2, 59), (59, .bipush 10, 2, 61), (61, .if_icmp .ne 6, 3, 64), (64, .bipush (-2), 2, 66), (66, .ireturn, 1, 67), (67, .aload_n 0, 1, 68), (68, .getfield 43, 3, 71), (71, .iload 4, 2, 73), (73, .iload_n 1, 1, 74), (74, .iastore, 1, 75), (75, .aload_n 0, 1, 76), (76, .getfield 46, 3, 79), (79, .iload 4, 2, 81), (81, .iload_n 2, 1, 82), (82, .iastore, 1, 83), (83, .aload_n 0, 1, 84), (84, .getfield 49, 3, 87), (87, .iload 4, 2, 89), (89, .iload_n 3, 1, 90), (90, .iastore, 1, 91), (91, .aload_n 0, 1, 92), (92, .getfield 9, 3, 95), (95, .bipush 7, 2, 97), (97, .dup2, 1, 98), (98, .iaload, 1, 99), (99, .iconst 1, 1, 100), (100, .iadd, 1, 101), (101, .iastore, 1, 102), (102, .iload 4, 2, 104), (104, .iconst 1, 1, 105), (105, .iadd, 1, 106), (106, .ireturn, 1, 107)]
theorem id_X12_log : ∀ q ∈ it_X12_log, decode cX12_log q.1 = .ok (q.2.1, q.2.2.1) ∧ q.1 + q.2.2.1 = q.2.2.2 := by decide +kernel
theorem dc_X12_log {pc : Nat} {i : Instr} {n pc' : Nat} (j : Nat) (h : it_X12_log[j]? = some (pc, i, n, pc')) : Dc cX12_log pc i n pc' := dc_of id_X12_log j h
abbrev rm_X12_log : Room := { frames := 2, cells := 0, slots := 0, locals := 46 }
def b_X12_log_64     (σ : MS) : Option (Int32 × MS) := some ((-2 : Int32), σ)
set_option maxHeartbeats 4000000 in
set_option maxRecDepth 20000 in
theorem c_X12_log_64 {X : CX} {Ω : OM} (hX : CF X Ω RX12 cX12_log 5 (some .int) rm_X12_log) (hO : OKO Ω) (hΩ : oSH Ω = SHM)      (σ : MS)  : GE X Ω 5 0 0 (emWI) 0 0 64 [] [] σ (b_X12_log_64  σ) := by
  unfold b_X12_log_64
  refine g_bipush (w := (-2 : Int32)) hX (dc_X12_log 35 rfl) (by decide) ?_
  exact g_iret hX (dc_X12_log 36 rfl) rfl rfl (Nat.le_refl _) (Nat.le_refl _)
def b_X12_log_102    (y4 : Int32) (σ : MS) : Option (Int32 × MS) := some ((y4 + (1 : Int32)), σ)
set_option maxHeartbeats 4000000 in
set_option maxRecDepth 20000 in
theorem c_X12_log_102 {X : CX} {Ω : OM} (hX : CF X Ω RX12 cX12_log 5 (some .int) rm_X12_log) (hO : OKO Ω) (hΩ : oSH Ω = SHM)     (y4 : Int32) (σ : MS)  : GE X Ω 5 0 0 (emWI) 0 0 102 [(4, .int y4)] [] σ (b_X12_log_102  y4 σ) := by
  unfold b_X12_log_102
  refine g_iload hX (dc_X12_log 60 rfl) 0 rfl ?_
  refine g_iconst (w := (1 : Int32)) hX (dc_X12_log 61 rfl) (by decide) ?_
  refine g_iadd hX (dc_X12_log 62 rfl) ?_
  exact g_iret hX (dc_X12_log 63 rfl) rfl rfl (Nat.le_refl _) (Nat.le_refl _)
def b_X12_log_57    (y1 : Int32) (y2 : Int32) (y3 : Int32) (y4 : Int32) (σ : MS) : Option (Int32 × MS) := (if y4 = (10 : Int32) then (b_X12_log_64 σ) else chk (inb y4 10) (chk (inb y4 10) (chk (inb y4 10) ((b_X12_log_102 (y4) (wI (wI (wI (wI σ 12 (ix y4) y1) 13 (ix y4) y2) 14 (ix y4) y3) 1 7 ((sI (wI (wI (wI σ 12 (ix y4) y1) 13 (ix y4) y2) 14 (ix y4) y3) 1 7) + (1 : Int32))))))))
set_option maxHeartbeats 4000000 in
set_option maxRecDepth 20000 in
theorem c_X12_log_57 {X : CX} {Ω : OM} (hX : CF X Ω RX12 cX12_log 5 (some .int) rm_X12_log) (hO : OKO Ω) (hΩ : oSH Ω = SHM)     (y1 : Int32) (y2 : Int32) (y3 : Int32) (y4 : Int32) (σ : MS)  : GE X Ω 5 0 0 (emWI) 0 0 57 [(0, .ref 0), (1, .int y1), (2, .int y2), (3, .int y3), (4, .int y4)] [] σ (b_X12_log_57  y1 y2 y3 y4 σ) := by
  unfold b_X12_log_57
  refine g_iload hX (dc_X12_log 32 rfl) 4 rfl ?_
  refine g_bipush (w := (10 : Int32)) hX (dc_X12_log 33 rfl) (by decide) ?_
  refine g_icmp_ne (tgt := 67) hX (dc_X12_log 34 rfl) (by decide) (fun h13 => ?_) (fun h13 => ?_)
  · exact g_sub [] rfl (c_X12_log_64 hX hO hΩ σ)
  · refine g_aload_n hX (dc_X12_log 37 rfl) rfl 0 rfl ?_
    refine g_getF (q := 12) hX (dc_X12_log 38 rfl) fl_X12_43 (by decide) rfl (stS hΩ 0 rfl) rfl ?_
    refine g_iload hX (dc_X12_log 39 rfl) 4 rfl ?_
    refine g_iload_n hX (dc_X12_log 40 rfl) rfl 1 rfl ?_
    refine g_chk (fun hc14 => ?_)
    refine g_iast hX (dc_X12_log 41 rfl) (stS hΩ 12 rfl) hc14 rfl ?_
    refine g_aload_n hX (dc_X12_log 42 rfl) rfl 0 rfl ?_
    refine g_getF (q := 13) hX (dc_X12_log 43 rfl) fl_X12_46 (by decide) rfl (stS hΩ 0 rfl) rfl ?_
    refine g_iload hX (dc_X12_log 44 rfl) 4 rfl ?_
    refine g_iload_n hX (dc_X12_log 45 rfl) rfl 2 rfl ?_
    refine g_chk (fun hc15 => ?_)
    refine g_iast hX (dc_X12_log 46 rfl) (stS hΩ 13 rfl) hc15 rfl ?_
    refine g_aload_n hX (dc_X12_log 47 rfl) rfl 0 rfl ?_
    refine g_getF (q := 14) hX (dc_X12_log 48 rfl) fl_X12_49 (by decide) rfl (stS hΩ 0 rfl) rfl ?_
    refine g_iload hX (dc_X12_log 49 rfl) 4 rfl ?_
    refine g_iload_n hX (dc_X12_log 50 rfl) rfl 3 rfl ?_
    refine g_chk (fun hc16 => ?_)
    refine g_iast hX (dc_X12_log 51 rfl) (stS hΩ 14 rfl) hc16 rfl ?_
    refine g_aload_n hX (dc_X12_log 52 rfl) rfl 0 rfl ?_
    refine g_getF (q := 1) hX (dc_X12_log 53 rfl) fl_X12_9 (by decide) rfl (stS hΩ 0 rfl) rfl ?_
    refine g_bipush (w := (7 : Int32)) hX (dc_X12_log 54 rfl) (by decide) ?_
    refine g_dup2 hX (dc_X12_log 55 rfl) rfl rfl ?_
    refine g_iald (j := 7) hX (dc_X12_log 56 rfl) (stS hΩ 1 rfl) (by decide) (by decide) ?_
    refine g_iconst (w := (1 : Int32)) hX (dc_X12_log 57 rfl) (by decide) ?_
    refine g_iadd hX (dc_X12_log 58 rfl) ?_
    refine g_iast (j := 7) hX (dc_X12_log 59 rfl) (stS hΩ 1 rfl) (by decide) (by decide) ?_
    exact g_sub [4] rfl (c_X12_log_102 hX hO hΩ (y4) (wI (wI (wI (wI σ 12 (ix y4) y1) 13 (ix y4) y2) 14 (ix y4) y3) 1 7 ((sI (wI (wI (wI σ 12 (ix y4) y1) 13 (ix y4) y2) 14 (ix y4) y3) 1 7) + (1 : Int32))))
def b_X12_log_0   (x1 : Int32) (x2 : Int32) (x3 : Int32)  (σ : MS) : Option (Int32 × MS) := (if x1 = (-1 : Int32) then some ((0 : Int32), (wI σ 1 7 (0 : Int32))) else (f_X12_in (x1).toInt64 (0 : Int64) (60 : Int64)).bind (fun r18 => (if r18 = 0 then (b_X12_log_64 σ) else (f_X12_isWork x2 σ).bind (fun r20 => (if r20 = 0 then (b_X12_log_64 σ) else (if x3 = (-1 : Int32) then (b_X12_log_57 (x1) (x2) (x3) ((sI σ 1 7)) σ) else (f_X12_isPerson x3 σ).bind (fun r23 => (if r23 = 0 then (b_X12_log_64 σ) else (b_X12_log_57 (x1) (x2) (x3) ((sI σ 1 7)) σ)))))))))
set_option maxHeartbeats 4000000 in
set_option maxRecDepth 20000 in
theorem c_X12_log_0 {X : CX} {Ω : OM} (hX : CF X Ω RX12 cX12_log 5 (some .int) rm_X12_log) (hO : OKO Ω) (hΩ : oSH Ω = SHM)    (x1 : Int32) (x2 : Int32) (x3 : Int32)  (σ : MS)  : GE X Ω 5 0 0 (emWI) 0 0 0 [(0, .ref 0), (1, .int x1), (2, .int x2), (3, .int x3)] [] σ (b_X12_log_0  x1 x2 x3 σ) := by
  unfold b_X12_log_0
  refine g_iload_n hX (dc_X12_log 0 rfl) rfl 1 rfl ?_
  refine g_iconst (w := (-1 : Int32)) hX (dc_X12_log 1 rfl) (by decide) ?_
  refine g_icmp_ne (tgt := 15) hX (dc_X12_log 2 rfl) (by decide) (fun h17 => ?_) (fun h17 => ?_)
  · refine g_aload_n hX (dc_X12_log 3 rfl) rfl 0 rfl ?_
    refine g_getF (q := 1) hX (dc_X12_log 4 rfl) fl_X12_9 (by decide) rfl (stS hΩ 0 rfl) rfl ?_
    refine g_bipush (w := (7 : Int32)) hX (dc_X12_log 5 rfl) (by decide) ?_
    refine g_iconst (w := (0 : Int32)) hX (dc_X12_log 6 rfl) (by decide) ?_
    refine g_iast (j := 7) hX (dc_X12_log 7 rfl) (stS hΩ 1 rfl) (by decide) (by decide) ?_
    refine g_iconst (w := (0 : Int32)) hX (dc_X12_log 8 rfl) (by decide) ?_
    exact g_iret hX (dc_X12_log 9 rfl) rfl rfl (Nat.le_refl _) (Nat.le_refl _)
  · refine g_aload_n hX (dc_X12_log 10 rfl) rfl 0 rfl ?_
    refine g_getF (q := 1) hX (dc_X12_log 11 rfl) fl_X12_9 (by decide) rfl (stS hΩ 0 rfl) rfl ?_
    refine g_bipush (w := (7 : Int32)) hX (dc_X12_log 12 rfl) (by decide) ?_
    refine g_iald (j := 7) hX (dc_X12_log 13 rfl) (stS hΩ 1 rfl) (by decide) (by decide) ?_
    refine g_istore (L' := [(4, .int (sI σ 1 7)), (0, .ref 0), (1, .int x1), (2, .int x2), (3, .int x3)]) hX (dc_X12_log 14 rfl) (by decide) rfl ?_
    refine g_iload_n hX (dc_X12_log 15 rfl) rfl 2 rfl ?_
    refine g_i2l hX (dc_X12_log 16 rfl) ?_
    refine g_lconst (w := (0 : Int64)) hX (dc_X12_log 17 rfl) (by decide) ?_
    refine g_ldc2 hX (dc_X12_log 18 rfl) wk_X12_494 ?_
    refine gS_PI (As := [.long (x1).toInt64, .long (0 : Int64), .long (60 : Int64)]) (st := []) hX (dc_X12_log 19 rfl) ml_X12_161 (con_X12_in hO hΩ (x1).toInt64 (0 : Int64) (60 : Int64) σ) rfl rfl ⟨by decide, by decide⟩ ⟨rfl, rfl⟩ ⟨Nat.zero_le _, Nat.zero_le _⟩ (Nat.le_of_ble_eq_true rfl) (fun r18 _ => ?_)
    refine g_if_eq (tgt := 64) hX (dc_X12_log 20 rfl) (by decide) (fun h19 => ?_) (fun h19 => ?_)
    · exact g_sub [] rfl (c_X12_log_64 hX hO hΩ σ)
    · refine g_aload_n hX (dc_X12_log 21 rfl) rfl 1 rfl ?_
      refine g_iload_n hX (dc_X12_log 22 rfl) rfl 3 rfl ?_
      refine gV_PI (As := [.int x2]) (st := []) hX (dc_X12_log 23 rfl) ml_X12_165 (con_X12_isWork hO hΩ x2 σ) (stS hΩ 0 rfl) rfl rfl ⟨by decide, by decide⟩ ⟨rfl, rfl⟩ ⟨Nat.zero_le _, Nat.zero_le _⟩ (Nat.le_of_ble_eq_true rfl) (fun r20 _ => ?_)
      refine g_if_eq (tgt := 64) hX (dc_X12_log 24 rfl) (by decide) (fun h21 => ?_) (fun h21 => ?_)
      · exact g_sub [] rfl (c_X12_log_64 hX hO hΩ σ)
      · refine g_iload_n hX (dc_X12_log 25 rfl) rfl 4 rfl ?_
        refine g_iconst (w := (-1 : Int32)) hX (dc_X12_log 26 rfl) (by decide) ?_
        refine g_icmp_eq (tgt := 57) hX (dc_X12_log 27 rfl) (by decide) (fun h22 => ?_) (fun h22 => ?_)
        · exact g_sub [1, 2, 3, 4, 0] rfl (c_X12_log_57 hX hO hΩ (x1) (x2) (x3) ((sI σ 1 7)) σ)
        · refine g_aload_n hX (dc_X12_log 28 rfl) rfl 1 rfl ?_
          refine g_iload_n hX (dc_X12_log 29 rfl) rfl 4 rfl ?_
          refine gV_PI (As := [.int x3]) (st := []) hX (dc_X12_log 30 rfl) ml_X12_393 (con_X12_isPerson hO hΩ x3 σ) (stS hΩ 0 rfl) rfl rfl ⟨by decide, by decide⟩ ⟨rfl, rfl⟩ ⟨Nat.zero_le _, Nat.zero_le _⟩ (Nat.le_of_ble_eq_true rfl) (fun r23 _ => ?_)
          refine g_if_eq (tgt := 64) hX (dc_X12_log 31 rfl) (by decide) (fun h24 => ?_) (fun h24 => ?_)
          · exact g_sub [] rfl (c_X12_log_64 hX hO hΩ σ)
          · exact g_sub [1, 2, 3, 4, 0] rfl (c_X12_log_57 hX hO hΩ (x1) (x2) (x3) ((sI σ 1 7)) σ)
def f_X12_log (x1 : Int32) (x2 : Int32) (x3 : Int32) (σ : MS) : Option (Int32 × MS) := b_X12_log_0  x1 x2 x3 σ
theorem con_X12_log {Ω : OM} (hO : OKO Ω) (hΩ : oSH Ω = SHM) (x1 : Int32) (x2 : Int32) (x3 : Int32) (σ : MS)  : Con Ω yX12_log cX12_log 5 (some .int) rm_X12_log (emWI) [.ref 0, .int x1, .int x2, .int x3] σ (f_X12_log x1 x2 x3 σ) :=
  con_of hO (by decide +kernel) (Nat.le_of_ble_eq_true rfl) rfl (fun X hX _ => c_X12_log_0 hX hO hΩ   x1 x2 x3 σ )
def it_X12_couldRule : List (Nat × Instr × Nat × Nat) := [(0, .aload_n 0, 1, 1), (1, .getfield 9, 3, 4), (4, .bipush 9, 2, 6), (6, .iload_n 1, 1, 7), (7, .iastore, 1, 8), (8, .aload_n 0, 1, 9), (9, .invokevirtual 345, 3, 12), (12, .iconst 1, 1, 13), (13, .istore_n 3, 1, 14), (14, .iconst 0, 1, 15), (15, .istore 4, 2, 17), (17, .iload 4, 2, 19), (19, .bipush 60, 2, 21), (21, .if_icmp .gt 96, 3, 24), (24, .aload_n 0, 1, 25), (25, .invokevirtual 428, 3, 28), (28, .pop, 1, 29), (29, .iconst 0, 1, 30), (30, .istore 5, 2, 32), (32, .iload 5, 2, 34), (34, .aload_n 0, 1, 35), (35, .getfield 9, 3, 38), (38, .bipush 7, 2, 40), (40, .iaload, 1, 41), (41, .if_icmp .ge 53, 3, 44), (44, .iload_n 3, 1, 45), (45, .ifCond .eq 41, 3, 48), (48, .aload_n 0, 1, 49), (49, .getfield 43, 3, 52), (52, .iload 5, 2, 54), (54, .iaload, 1, 55), (55, .iload 4, 2, 57), (57, .if_icmp .ne 25, 3, 60), (60, .aload_n 0, 1, 61), (61, .getfield 34, 3, 64), (64, .aload_n 0, 1, 65), (65, .getfield 46, 3, 68), (68, .iload 5, 2, 70), (70, .iaload, 1, 71), (71, .iaload, 1, 72), (72, .aload_n 0, 1, 73), (73, .getfield 49, 3, 76), (76, .iload 5, 2, 78), (78, .iaload, 1, 79), (79, .if_icmp .ne 7, 3, 82), (82, .iconst 1, 1, 83), (83, .goto 4, 3, 86), (86, .iconst 0, 1, 87), (87, .istore_n 3, 1, 88), (88, .iinc 5 1, 3, 91), (91, .goto (-59), 3, 94), (94, .iload 4, 2, 96), (96, .iload_n 2, 1, 97), (97, .if_icmp .ne 14, 3, 100), (100, .aload_n 0, 1, 101), (101, .getfield 34, 3, 104), (104, .aload_n 0, 1, 105), (105, .getfield 142, 3, 108), (108, .invokestatic 334, 3, 111), (111, .iinc 4 1, 3, 114), (114, .goto (-97), 3, 117), (117, .aload_n 0, 1, 118), (118, .invokevirtual 468, 3, 121), (121, .iload_n 3, 1, 122), (122, .ireturn, 1, 123)]
theorem id_X12_couldRule : ∀ q ∈ it_X12_couldRule, decode cX12_couldRule q.1 = .ok (q.2.1, q.2.2.1) ∧ q.1 + q.2.2.1 = q.2.2.2 := by decide +kernel
theorem dc_X12_couldRule {pc : Nat} {i : Instr} {n pc' : Nat} (j : Nat) (h : it_X12_couldRule[j]? = some (pc, i, n, pc')) : Dc cX12_couldRule pc i n pc' := dc_of id_X12_couldRule j h
abbrev rm_X12_couldRule : Room := { frames := 7, cells := 0, slots := 0, locals := 165 }
def b_X12_couldRule_111  (k17 : Int32 → Int32 → Int32 → MS → Option (Int32 × MS))  (y2 : Int32) (y3 : Int32) (y4 : Int32) (σ : MS) : Option (Int32 × MS) := (k17 (y2) (y3) ((y4 + (1 : Int32))) σ)
set_option maxHeartbeats 4000000 in
set_option maxRecDepth 20000 in
theorem c_X12_couldRule_111 {X : CX} {Ω : OM} (hX : CF X Ω RX12 cX12_couldRule 6 (some .boolean) rm_X12_couldRule) (hO : OKO Ω) (hΩ : oSH Ω = SHM)   (k17 : Int32 → Int32 → Int32 → MS → Option (Int32 × MS)) (hk17 : ∀ (y2 : Int32) (y3 : Int32) (y4 : Int32) (σ : MS) , GE X Ω 6 0 0 (emWI) 0 0 17 [(0, .ref 0), (2, .int y2), (3, .int y3), (4, .int y4)] [] σ (k17 y2 y3 y4 σ))  (y2 : Int32) (y3 : Int32) (y4 : Int32) (σ : MS)  : GE X Ω 6 0 0 (emWI) 0 0 111 [(0, .ref 0), (2, .int y2), (3, .int y3), (4, .int y4)] [] σ (b_X12_couldRule_111  k17 y2 y3 y4 σ) := by
  unfold b_X12_couldRule_111
  refine g_iinc (w := (y4 + (1 : Int32))) (L' := [(4, .int (y4 + (1 : Int32))), (0, .ref 0), (2, .int y2), (3, .int y3)]) hX (dc_X12_couldRule 59 rfl) 3 rfl rfl (by decide) rfl ?_
  refine g_goto (tgt := 17) hX (dc_X12_couldRule 60 rfl) (by decide) ?_
  exact g_sub [1, 2, 3, 0] rfl (hk17 (y2) (y3) ((y4 + (1 : Int32))) σ )
def b_X12_couldRule_87  (k17 : Int32 → Int32 → Int32 → MS → Option (Int32 × MS)) (k32 : Int32 → Int32 → Int32 → Int32 → MS → Option (Int32 × MS))  (y2 : Int32) (y4 : Int32) (y5 : Int32) (s0 : Int32) (σ : MS) : Option (Int32 × MS) := (k32 (y2) (s0) (y4) ((y5 + (1 : Int32))) σ)
set_option maxHeartbeats 4000000 in
set_option maxRecDepth 20000 in
theorem c_X12_couldRule_87 {X : CX} {Ω : OM} (hX : CF X Ω RX12 cX12_couldRule 6 (some .boolean) rm_X12_couldRule) (hO : OKO Ω) (hΩ : oSH Ω = SHM)   (k17 : Int32 → Int32 → Int32 → MS → Option (Int32 × MS)) (hk17 : ∀ (y2 : Int32) (y3 : Int32) (y4 : Int32) (σ : MS) , GE X Ω 6 0 0 (emWI) 0 0 17 [(0, .ref 0), (2, .int y2), (3, .int y3), (4, .int y4)] [] σ (k17 y2 y3 y4 σ)) (k32 : Int32 → Int32 → Int32 → Int32 → MS → Option (Int32 × MS)) (hk32 : ∀ (y2 : Int32) (y3 : Int32) (y4 : Int32) (y5 : Int32) (σ : MS) , GE X Ω 6 0 0 (emWI) 0 0 32 [(0, .ref 0), (2, .int y2), (3, .int y3), (4, .int y4), (5, .int y5)] [] σ (k32 y2 y3 y4 y5 σ))  (y2 : Int32) (y4 : Int32) (y5 : Int32) (s0 : Int32) (σ : MS)  : GE X Ω 6 0 0 (emWI) 0 0 87 [(0, .ref 0), (2, .int y2), (4, .int y4), (5, .int y5)] [.int s0] σ (b_X12_couldRule_87  k17 k32 y2 y4 y5 s0 σ) := by
  unfold b_X12_couldRule_87
  refine g_istore_n (L' := [(3, .int s0), (0, .ref 0), (2, .int y2), (4, .int y4), (5, .int y5)]) hX (dc_X12_couldRule 48 rfl) rfl (by decide) rfl ?_
  refine g_iinc (w := (y5 + (1 : Int32))) (L' := [(5, .int (y5 + (1 : Int32))), (3, .int s0), (0, .ref 0), (2, .int y2), (4, .int y4)]) hX (dc_X12_couldRule 49 rfl) 4 rfl rfl (by decide) rfl ?_
  refine g_goto (tgt := 32) hX (dc_X12_couldRule 50 rfl) (by decide) ?_
  exact g_sub [2, 3, 1, 4, 0] rfl (hk32 (y2) (s0) (y4) ((y5 + (1 : Int32))) σ )
def b_X12_couldRule_86  (k17 : Int32 → Int32 → Int32 → MS → Option (Int32 × MS)) (k32 : Int32 → Int32 → Int32 → Int32 → MS → Option (Int32 × MS))  (y2 : Int32) (y4 : Int32) (y5 : Int32) (σ : MS) : Option (Int32 × MS) := (b_X12_couldRule_87 k17 k32 (y2) (y4) (y5) ((0 : Int32)) σ)
set_option maxHeartbeats 4000000 in
set_option maxRecDepth 20000 in
theorem c_X12_couldRule_86 {X : CX} {Ω : OM} (hX : CF X Ω RX12 cX12_couldRule 6 (some .boolean) rm_X12_couldRule) (hO : OKO Ω) (hΩ : oSH Ω = SHM)   (k17 : Int32 → Int32 → Int32 → MS → Option (Int32 × MS)) (hk17 : ∀ (y2 : Int32) (y3 : Int32) (y4 : Int32) (σ : MS) , GE X Ω 6 0 0 (emWI) 0 0 17 [(0, .ref 0), (2, .int y2), (3, .int y3), (4, .int y4)] [] σ (k17 y2 y3 y4 σ)) (k32 : Int32 → Int32 → Int32 → Int32 → MS → Option (Int32 × MS)) (hk32 : ∀ (y2 : Int32) (y3 : Int32) (y4 : Int32) (y5 : Int32) (σ : MS) , GE X Ω 6 0 0 (emWI) 0 0 32 [(0, .ref 0), (2, .int y2), (3, .int y3), (4, .int y4), (5, .int y5)] [] σ (k32 y2 y3 y4 y5 σ))  (y2 : Int32) (y4 : Int32) (y5 : Int32) (σ : MS)  : GE X Ω 6 0 0 (emWI) 0 0 86 [(0, .ref 0), (2, .int y2), (4, .int y4), (5, .int y5)] [] σ (b_X12_couldRule_86  k17 k32 y2 y4 y5 σ) := by
  unfold b_X12_couldRule_86
  refine g_iconst (w := (0 : Int32)) hX (dc_X12_couldRule 47 rfl) (by decide) ?_
  exact g_sub [0, 1, 2, 3] rfl (c_X12_couldRule_87 hX hO hΩ _ hk17 _ hk32 (y2) (y4) (y5) ((0 : Int32)) σ)
def b_X12_couldRule_82  (k17 : Int32 → Int32 → Int32 → MS → Option (Int32 × MS)) (k32 : Int32 → Int32 → Int32 → Int32 → MS → Option (Int32 × MS))  (y2 : Int32) (y4 : Int32) (y5 : Int32) (σ : MS) : Option (Int32 × MS) := (b_X12_couldRule_87 k17 k32 (y2) (y4) (y5) ((1 : Int32)) σ)
set_option maxHeartbeats 4000000 in
set_option maxRecDepth 20000 in
theorem c_X12_couldRule_82 {X : CX} {Ω : OM} (hX : CF X Ω RX12 cX12_couldRule 6 (some .boolean) rm_X12_couldRule) (hO : OKO Ω) (hΩ : oSH Ω = SHM)   (k17 : Int32 → Int32 → Int32 → MS → Option (Int32 × MS)) (hk17 : ∀ (y2 : Int32) (y3 : Int32) (y4 : Int32) (σ : MS) , GE X Ω 6 0 0 (emWI) 0 0 17 [(0, .ref 0), (2, .int y2), (3, .int y3), (4, .int y4)] [] σ (k17 y2 y3 y4 σ)) (k32 : Int32 → Int32 → Int32 → Int32 → MS → Option (Int32 × MS)) (hk32 : ∀ (y2 : Int32) (y3 : Int32) (y4 : Int32) (y5 : Int32) (σ : MS) , GE X Ω 6 0 0 (emWI) 0 0 32 [(0, .ref 0), (2, .int y2), (3, .int y3), (4, .int y4), (5, .int y5)] [] σ (k32 y2 y3 y4 y5 σ))  (y2 : Int32) (y4 : Int32) (y5 : Int32) (σ : MS)  : GE X Ω 6 0 0 (emWI) 0 0 82 [(0, .ref 0), (2, .int y2), (4, .int y4), (5, .int y5)] [] σ (b_X12_couldRule_82  k17 k32 y2 y4 y5 σ) := by
  unfold b_X12_couldRule_82
  refine g_iconst (w := (1 : Int32)) hX (dc_X12_couldRule 45 rfl) (by decide) ?_
  refine g_goto (tgt := 87) hX (dc_X12_couldRule 46 rfl) (by decide) ?_
  exact g_sub [0, 1, 2, 3] rfl (c_X12_couldRule_87 hX hO hΩ _ hk17 _ hk32 (y2) (y4) (y5) ((1 : Int32)) σ)
def b_X12_couldRule_32  (k17 : Int32 → Int32 → Int32 → MS → Option (Int32 × MS)) : Nat → Int32 → Int32 → Int32 → Int32 → MS → Option (Int32 × MS)
  | 0, _, _, _, _, _ => none
  | n + 1, y2, y3, y4, y5, σ => (if (sI σ 1 7) ≤ y5 then (if y4 = y2 then (f_X12_copies 9 6 43 6 σ).bind (fun r18 => (b_X12_couldRule_111 k17 (y2) (y3) (y4) r18)) else (b_X12_couldRule_111 k17 (y2) (y3) (y4) σ)) else (if y3 = 0 then (b_X12_couldRule_86 k17 (b_X12_couldRule_32  k17 n) (y2) (y4) (y5) σ) else chk (inb y5 10) ((if (sI σ 12 (ix y5)) = y4 then chk (inb y5 10) (chk (inb (sI σ 13 (ix y5)) 6) (chk (inb y5 10) ((if (sI σ 9 (ix (sI σ 13 (ix y5)))) = (sI σ 14 (ix y5)) then (b_X12_couldRule_82 k17 (b_X12_couldRule_32  k17 n) (y2) (y4) (y5) σ) else (b_X12_couldRule_86 k17 (b_X12_couldRule_32  k17 n) (y2) (y4) (y5) σ))))) else (b_X12_couldRule_82 k17 (b_X12_couldRule_32  k17 n) (y2) (y4) (y5) σ)))))
set_option maxHeartbeats 4000000 in
set_option maxRecDepth 20000 in
theorem c_X12_couldRule_32 {X : CX} {Ω : OM} (hX : CF X Ω RX12 cX12_couldRule 6 (some .boolean) rm_X12_couldRule) (hO : OKO Ω) (hΩ : oSH Ω = SHM)   (k17 : Int32 → Int32 → Int32 → MS → Option (Int32 × MS)) (hk17 : ∀ (y2 : Int32) (y3 : Int32) (y4 : Int32) (σ : MS) , GE X Ω 6 0 0 (emWI) 0 0 17 [(0, .ref 0), (2, .int y2), (3, .int y3), (4, .int y4)] [] σ (k17 y2 y3 y4 σ)) : ∀ (n : Nat) (y2 : Int32) (y3 : Int32) (y4 : Int32) (y5 : Int32) (σ : MS) , GE X Ω 6 0 0 (emWI) 0 0 32 [(0, .ref 0), (2, .int y2), (3, .int y3), (4, .int y4), (5, .int y5)] [] σ (b_X12_couldRule_32  k17 n y2 y3 y4 y5 σ)
  | 0, _, _, _, _, _ => g_none
  | n + 1, y2, y3, y4, y5, σ => by
    have hk32 := c_X12_couldRule_32 hX hO hΩ  k17 hk17 n
    unfold b_X12_couldRule_32
    refine g_iload hX (dc_X12_couldRule 19 rfl) 4 rfl ?_
    refine g_aload_n hX (dc_X12_couldRule 20 rfl) rfl 0 rfl ?_
    refine g_getF (q := 1) hX (dc_X12_couldRule 21 rfl) fl_X12_9 (by decide) rfl (stS hΩ 0 rfl) rfl ?_
    refine g_bipush (w := (7 : Int32)) hX (dc_X12_couldRule 22 rfl) (by decide) ?_
    refine g_iald (j := 7) hX (dc_X12_couldRule 23 rfl) (stS hΩ 1 rfl) (by decide) (by decide) ?_
    refine g_icmp_ge (tgt := 94) hX (dc_X12_couldRule 24 rfl) (by decide) (fun h16 => ?_) (fun h16 => ?_)
    · refine g_iload hX (dc_X12_couldRule 51 rfl) 3 rfl ?_
      refine g_iload_n hX (dc_X12_couldRule 52 rfl) rfl 1 rfl ?_
      refine g_icmp_ne (tgt := 111) hX (dc_X12_couldRule 53 rfl) (by decide) (fun h17 => ?_) (fun h17 => ?_)
      · refine g_aload_n hX (dc_X12_couldRule 54 rfl) rfl 0 rfl ?_
        refine g_getF (q := 9) hX (dc_X12_couldRule 55 rfl) fl_X12_34 (by decide) rfl (stS hΩ 0 rfl) rfl ?_
        refine g_aload_n hX (dc_X12_couldRule 56 rfl) rfl 0 rfl ?_
        refine g_getF (q := 43) hX (dc_X12_couldRule 57 rfl) fl_X12_142 (by decide) rfl (stS hΩ 0 rfl) rfl ?_
        refine gS_WV (As := [.ref 9, .ref 43]) (st := []) hX (dc_X12_couldRule 58 rfl) ml_X12_334 (con_X12_copies hO hΩ 9 6 43 6 σ (by rw [hΩ]; rfl) (by rw [hΩ]; rfl)) rfl rfl ⟨by decide, by decide⟩ ⟨rfl, rfl⟩ ⟨Nat.zero_le _, Nat.zero_le _⟩ (Nat.le_of_ble_eq_true rfl) (fun r18 _ => ?_)
        exact g_sub [0, 1, 2, 3] rfl (c_X12_couldRule_111 hX hO hΩ _ hk17 (y2) (y3) (y4) r18)
      · exact g_sub [0, 1, 2, 3] rfl (c_X12_couldRule_111 hX hO hΩ _ hk17 (y2) (y3) (y4) σ)
    · refine g_iload_n hX (dc_X12_couldRule 25 rfl) rfl 2 rfl ?_
      refine g_if_eq (tgt := 86) hX (dc_X12_couldRule 26 rfl) (by decide) (fun h19 => ?_) (fun h19 => ?_)
      · exact g_sub [0, 1, 3, 4] rfl (c_X12_couldRule_86 hX hO hΩ _ hk17 _ hk32 (y2) (y4) (y5) σ)
      · refine g_aload_n hX (dc_X12_couldRule 27 rfl) rfl 0 rfl ?_
        refine g_getF (q := 12) hX (dc_X12_couldRule 28 rfl) fl_X12_43 (by decide) rfl (stS hΩ 0 rfl) rfl ?_
        refine g_iload hX (dc_X12_couldRule 29 rfl) 4 rfl ?_
        refine g_chk (fun hc20 => ?_)
        refine g_iald hX (dc_X12_couldRule 30 rfl) (stS hΩ 12 rfl) hc20 rfl ?_
        refine g_iload hX (dc_X12_couldRule 31 rfl) 3 rfl ?_
        refine g_icmp_ne (tgt := 82) hX (dc_X12_couldRule 32 rfl) (by decide) (fun h21 => ?_) (fun h21 => ?_)
        · refine g_aload_n hX (dc_X12_couldRule 33 rfl) rfl 0 rfl ?_
          refine g_getF (q := 9) hX (dc_X12_couldRule 34 rfl) fl_X12_34 (by decide) rfl (stS hΩ 0 rfl) rfl ?_
          refine g_aload_n hX (dc_X12_couldRule 35 rfl) rfl 0 rfl ?_
          refine g_getF (q := 13) hX (dc_X12_couldRule 36 rfl) fl_X12_46 (by decide) rfl (stS hΩ 0 rfl) rfl ?_
          refine g_iload hX (dc_X12_couldRule 37 rfl) 4 rfl ?_
          refine g_chk (fun hc22 => ?_)
          refine g_iald hX (dc_X12_couldRule 38 rfl) (stS hΩ 13 rfl) hc22 rfl ?_
          refine g_chk (fun hc23 => ?_)
          refine g_iald hX (dc_X12_couldRule 39 rfl) (stS hΩ 9 rfl) hc23 rfl ?_
          refine g_aload_n hX (dc_X12_couldRule 40 rfl) rfl 0 rfl ?_
          refine g_getF (q := 14) hX (dc_X12_couldRule 41 rfl) fl_X12_49 (by decide) rfl (stS hΩ 0 rfl) rfl ?_
          refine g_iload hX (dc_X12_couldRule 42 rfl) 4 rfl ?_
          refine g_chk (fun hc24 => ?_)
          refine g_iald hX (dc_X12_couldRule 43 rfl) (stS hΩ 14 rfl) hc24 rfl ?_
          refine g_icmp_ne (tgt := 86) hX (dc_X12_couldRule 44 rfl) (by decide) (fun h25 => ?_) (fun h25 => ?_)
          · exact g_sub [0, 1, 3, 4] rfl (c_X12_couldRule_82 hX hO hΩ _ hk17 _ hk32 (y2) (y4) (y5) σ)
          · exact g_sub [0, 1, 3, 4] rfl (c_X12_couldRule_86 hX hO hΩ _ hk17 _ hk32 (y2) (y4) (y5) σ)
        · exact g_sub [0, 1, 3, 4] rfl (c_X12_couldRule_82 hX hO hΩ _ hk17 _ hk32 (y2) (y4) (y5) σ)
def b_X12_couldRule_17   : Nat → Int32 → Int32 → Int32 → MS → Option (Int32 × MS)
  | 0, _, _, _, _ => none
  | n + 1, y2, y3, y4, σ => (if (60 : Int32) < y4 then (f_X12_laysBack σ).bind (fun r27 => chk (y3 = 0 ∨ y3 = 1) (some (y3, r27))) else (f_X12_goes σ).bind (fun r29 => (b_X12_couldRule_32 (b_X12_couldRule_17  n) FU (y2) (y3) (y4) ((0 : Int32)) r29.2)))
set_option maxHeartbeats 4000000 in
set_option maxRecDepth 20000 in
theorem c_X12_couldRule_17 {X : CX} {Ω : OM} (hX : CF X Ω RX12 cX12_couldRule 6 (some .boolean) rm_X12_couldRule) (hO : OKO Ω) (hΩ : oSH Ω = SHM)    : ∀ (n : Nat) (y2 : Int32) (y3 : Int32) (y4 : Int32) (σ : MS) , GE X Ω 6 0 0 (emWI) 0 0 17 [(0, .ref 0), (2, .int y2), (3, .int y3), (4, .int y4)] [] σ (b_X12_couldRule_17  n y2 y3 y4 σ)
  | 0, _, _, _, _ => g_none
  | n + 1, y2, y3, y4, σ => by
    have hk17 := c_X12_couldRule_17 hX hO hΩ  n
    unfold b_X12_couldRule_17
    refine g_iload hX (dc_X12_couldRule 11 rfl) 3 rfl ?_
    refine g_bipush (w := (60 : Int32)) hX (dc_X12_couldRule 12 rfl) (by decide) ?_
    refine g_icmp_gt (tgt := 117) hX (dc_X12_couldRule 13 rfl) (by decide) (fun h26 => ?_) (fun h26 => ?_)
    · refine g_aload_n hX (dc_X12_couldRule 61 rfl) rfl 0 rfl ?_
      refine gV_WV (As := []) (st := []) hX (dc_X12_couldRule 62 rfl) ml_X12_468 (con_X12_laysBack hO hΩ σ) (stS hΩ 0 rfl) rfl rfl ⟨by decide, by decide⟩ ⟨rfl, rfl⟩ ⟨Nat.zero_le _, Nat.zero_le _⟩ (Nat.le_of_ble_eq_true rfl) (fun r27 _ => ?_)
      refine g_iload_n hX (dc_X12_couldRule 63 rfl) rfl 2 rfl ?_
      refine g_chk (fun hc28 => ?_)
      exact g_iret hX (dc_X12_couldRule 64 rfl) (nz_bool hc28).1 rfl (Nat.le_refl _) (Nat.le_refl _)
    · refine g_aload_n hX (dc_X12_couldRule 14 rfl) rfl 0 rfl ?_
      refine gV_WI (As := []) (st := []) hX (dc_X12_couldRule 15 rfl) ml_X12_428 (con_X12_goes hO hΩ σ) (stS hΩ 0 rfl) rfl rfl ⟨by decide, by decide⟩ ⟨rfl, rfl⟩ ⟨Nat.zero_le _, Nat.zero_le _⟩ (Nat.le_of_ble_eq_true rfl) (fun r29 _ => ?_)
      refine g_pop hX (dc_X12_couldRule 16 rfl) rfl ?_
      refine g_iconst (w := (0 : Int32)) hX (dc_X12_couldRule 17 rfl) (by decide) ?_
      refine g_istore (L' := [(5, .int (0 : Int32)), (0, .ref 0), (2, .int y2), (3, .int y3), (4, .int y4)]) hX (dc_X12_couldRule 18 rfl) (by decide) rfl ?_
      exact g_sub [1, 2, 3, 4, 0] rfl (c_X12_couldRule_32 hX hO hΩ _ hk17 FU (y2) (y3) (y4) ((0 : Int32)) r29.2)
def b_X12_couldRule_0   (x1 : Int32) (x2 : Int32)  (σ : MS) : Option (Int32 × MS) := (f_X12_begins (wI σ 1 9 x1)).bind (fun r30 => (b_X12_couldRule_17 FU (x2) ((1 : Int32)) ((0 : Int32)) r30))
set_option maxHeartbeats 4000000 in
set_option maxRecDepth 20000 in
theorem c_X12_couldRule_0 {X : CX} {Ω : OM} (hX : CF X Ω RX12 cX12_couldRule 6 (some .boolean) rm_X12_couldRule) (hO : OKO Ω) (hΩ : oSH Ω = SHM)    (x1 : Int32) (x2 : Int32)  (σ : MS)  : GE X Ω 6 0 0 (emWI) 0 0 0 [(0, .ref 0), (1, .int x1), (2, .int x2)] [] σ (b_X12_couldRule_0  x1 x2 σ) := by
  unfold b_X12_couldRule_0
  refine g_aload_n hX (dc_X12_couldRule 0 rfl) rfl 0 rfl ?_
  refine g_getF (q := 1) hX (dc_X12_couldRule 1 rfl) fl_X12_9 (by decide) rfl (stS hΩ 0 rfl) rfl ?_
  refine g_bipush (w := (9 : Int32)) hX (dc_X12_couldRule 2 rfl) (by decide) ?_
  refine g_iload_n hX (dc_X12_couldRule 3 rfl) rfl 1 rfl ?_
  refine g_iast (j := 9) hX (dc_X12_couldRule 4 rfl) (stS hΩ 1 rfl) (by decide) (by decide) ?_
  refine g_aload_n hX (dc_X12_couldRule 5 rfl) rfl 0 rfl ?_
  refine gV_WV (As := []) (st := []) hX (dc_X12_couldRule 6 rfl) ml_X12_345 (con_X12_begins hO hΩ (wI σ 1 9 x1)) (stS hΩ 0 rfl) rfl rfl ⟨by decide, by decide⟩ ⟨rfl, rfl⟩ ⟨Nat.zero_le _, Nat.zero_le _⟩ (Nat.le_of_ble_eq_true rfl) (fun r30 _ => ?_)
  refine g_iconst (w := (1 : Int32)) hX (dc_X12_couldRule 7 rfl) (by decide) ?_
  refine g_istore_n (L' := [(3, .int (1 : Int32)), (0, .ref 0), (1, .int x1), (2, .int x2)]) hX (dc_X12_couldRule 8 rfl) rfl (by decide) rfl ?_
  refine g_iconst (w := (0 : Int32)) hX (dc_X12_couldRule 9 rfl) (by decide) ?_
  refine g_istore (L' := [(4, .int (0 : Int32)), (3, .int (1 : Int32)), (0, .ref 0), (1, .int x1), (2, .int x2)]) hX (dc_X12_couldRule 10 rfl) (by decide) rfl ?_
  exact g_sub [2, 4, 1, 0] rfl (c_X12_couldRule_17 hX hO hΩ FU (x2) ((1 : Int32)) ((0 : Int32)) r30)
def f_X12_couldRule (x1 : Int32) (x2 : Int32) (σ : MS) : Option (Int32 × MS) := b_X12_couldRule_0  x1 x2 σ
theorem con_X12_couldRule {Ω : OM} (hO : OKO Ω) (hΩ : oSH Ω = SHM) (x1 : Int32) (x2 : Int32) (σ : MS)  : Con Ω yX12_couldRule cX12_couldRule 6 (some .boolean) rm_X12_couldRule (emWI) [.ref 0, .int x1, .int x2] σ (f_X12_couldRule x1 x2 σ) :=
  con_of hO (by decide +kernel) (Nat.le_of_ble_eq_true rfl) rfl (fun X hX _ => c_X12_couldRule_0 hX hO hΩ   x1 x2 σ )
def it_X12_ruled : List (Nat × Instr × Nat × Nat) := [(0, .aload_n 0, 1, 1), (1, .getfield 341, 3, 4), (4, .ifCond .eq 13, 3, 7), (7, .iload_n 1, 1, 8), (8, .i2l, 1, 9), (9, .lconst 0, 1, 10), (10, .lconst 1, 1, 11), (11, .invokestatic 161, 3, 14), (14, .ifCond .ne 6, 3, 17), (17, .bipush (-3), 2, 19), (19, .ireturn, 1, 20), (20, .aload_n 0, 1, 21), (21, .invokevirtual 462, 3, 24), (24, .iconst 0, 1, 25), (25, .istore_n 2, 1, 26), (26, .bipush (-2), 2, 28), (28, .istore_n 3, 1, 29), (29, .iconst (-1), 1, 30), (30, .istore 4, 2, 32), (32, .iload 4, 2, 34), (34, .aload_n 0, 1, 35), (35, .getfield 361, 3, 38), (38, .if_icmp .ge 33, 3, 41), (41, .aload_n 0, 1, 42), (42, .iload 4, 2, 44), (44, .iconst (-1), 1, 45), (45, .invokevirtual 496, 3, 48), (48, .ifCond .eq 17, 3, 51), (51, .iload_n 2, 1, 52), (52, .ifCond .ne 8, 3, 55), (55, .iload 4, 2, 57), (57, .goto 4, 3, 60), (60, .iload_n 3, 1, 61), (61, .istore_n 3, 1, 62), (62, .iinc 2 1, 3, 65), (65, .iinc 4 1, 3, 68), (68, .goto (-36), 3, 71), (71, .iload_n 1, 1, 72), (72, .ifCond .ne 7, 3, 75), (75, .iload_n 2, 1, 76), (76, .goto 4, 3, 79), (79, .iload_n 3, 1, 80), (80, .ireturn, 1, 81)]
theorem id_X12_ruled : ∀ q ∈ it_X12_ruled, decode cX12_ruled q.1 = .ok (q.2.1, q.2.2.1) ∧ q.1 + q.2.2.1 = q.2.2.2 := by decide +kernel
theorem dc_X12_ruled {pc : Nat} {i : Instr} {n pc' : Nat} (j : Nat) (h : it_X12_ruled[j]? = some (pc, i, n, pc')) : Dc cX12_ruled pc i n pc' := dc_of id_X12_ruled j h
abbrev rm_X12_ruled : Room := { frames := 8, cells := 0, slots := 0, locals := 190 }
def b_X12_ruled_80    (s0 : Int32) (σ : MS) : Option (Int32 × MS) := some (s0, σ)
set_option maxHeartbeats 4000000 in
set_option maxRecDepth 20000 in
theorem c_X12_ruled_80 {X : CX} {Ω : OM} (hX : CF X Ω RX12 cX12_ruled 5 (some .int) rm_X12_ruled) (hO : OKO Ω) (hΩ : oSH Ω = SHM)     (s0 : Int32) (σ : MS)  : GE X Ω 5 0 0 (emWI) 0 0 80 [] [.int s0] σ (b_X12_ruled_80  s0 σ) := by
  unfold b_X12_ruled_80
  exact g_iret hX (dc_X12_ruled 42 rfl) rfl rfl (Nat.le_refl _) (Nat.le_refl _)
def b_X12_ruled_65  (k32 : Int32 → Int32 → Int32 → Int32 → MS → Option (Int32 × MS))  (y1 : Int32) (y2 : Int32) (y3 : Int32) (y4 : Int32) (σ : MS) : Option (Int32 × MS) := (k32 (y1) (y2) (y3) ((y4 + (1 : Int32))) σ)
set_option maxHeartbeats 4000000 in
set_option maxRecDepth 20000 in
theorem c_X12_ruled_65 {X : CX} {Ω : OM} (hX : CF X Ω RX12 cX12_ruled 5 (some .int) rm_X12_ruled) (hO : OKO Ω) (hΩ : oSH Ω = SHM)   (k32 : Int32 → Int32 → Int32 → Int32 → MS → Option (Int32 × MS)) (hk32 : ∀ (y1 : Int32) (y2 : Int32) (y3 : Int32) (y4 : Int32) (σ : MS) , GE X Ω 5 0 0 (emWI) 0 0 32 [(0, .ref 0), (1, .int y1), (2, .int y2), (3, .int y3), (4, .int y4)] [] σ (k32 y1 y2 y3 y4 σ))  (y1 : Int32) (y2 : Int32) (y3 : Int32) (y4 : Int32) (σ : MS)  : GE X Ω 5 0 0 (emWI) 0 0 65 [(0, .ref 0), (1, .int y1), (2, .int y2), (3, .int y3), (4, .int y4)] [] σ (b_X12_ruled_65  k32 y1 y2 y3 y4 σ) := by
  unfold b_X12_ruled_65
  refine g_iinc (w := (y4 + (1 : Int32))) (L' := [(4, .int (y4 + (1 : Int32))), (0, .ref 0), (1, .int y1), (2, .int y2), (3, .int y3)]) hX (dc_X12_ruled 35 rfl) 4 rfl rfl (by decide) rfl ?_
  refine g_goto (tgt := 32) hX (dc_X12_ruled 36 rfl) (by decide) ?_
  exact g_sub [1, 2, 3, 4, 0] rfl (hk32 (y1) (y2) (y3) ((y4 + (1 : Int32))) σ )
def b_X12_ruled_61  (k32 : Int32 → Int32 → Int32 → Int32 → MS → Option (Int32 × MS))  (y1 : Int32) (y2 : Int32) (y4 : Int32) (s0 : Int32) (σ : MS) : Option (Int32 × MS) := (b_X12_ruled_65 k32 (y1) ((y2 + (1 : Int32))) (s0) (y4) σ)
set_option maxHeartbeats 4000000 in
set_option maxRecDepth 20000 in
theorem c_X12_ruled_61 {X : CX} {Ω : OM} (hX : CF X Ω RX12 cX12_ruled 5 (some .int) rm_X12_ruled) (hO : OKO Ω) (hΩ : oSH Ω = SHM)   (k32 : Int32 → Int32 → Int32 → Int32 → MS → Option (Int32 × MS)) (hk32 : ∀ (y1 : Int32) (y2 : Int32) (y3 : Int32) (y4 : Int32) (σ : MS) , GE X Ω 5 0 0 (emWI) 0 0 32 [(0, .ref 0), (1, .int y1), (2, .int y2), (3, .int y3), (4, .int y4)] [] σ (k32 y1 y2 y3 y4 σ))  (y1 : Int32) (y2 : Int32) (y4 : Int32) (s0 : Int32) (σ : MS)  : GE X Ω 5 0 0 (emWI) 0 0 61 [(0, .ref 0), (1, .int y1), (2, .int y2), (4, .int y4)] [.int s0] σ (b_X12_ruled_61  k32 y1 y2 y4 s0 σ) := by
  unfold b_X12_ruled_61
  refine g_istore_n (L' := [(3, .int s0), (0, .ref 0), (1, .int y1), (2, .int y2), (4, .int y4)]) hX (dc_X12_ruled 33 rfl) rfl (by decide) rfl ?_
  refine g_iinc (w := (y2 + (1 : Int32))) (L' := [(2, .int (y2 + (1 : Int32))), (3, .int s0), (0, .ref 0), (1, .int y1), (4, .int y4)]) hX (dc_X12_ruled 34 rfl) 3 rfl rfl (by decide) rfl ?_
  exact g_sub [2, 3, 0, 1, 4] rfl (c_X12_ruled_65 hX hO hΩ _ hk32 (y1) ((y2 + (1 : Int32))) (s0) (y4) σ)
def b_X12_ruled_32   : Nat → Int32 → Int32 → Int32 → Int32 → MS → Option (Int32 × MS)
  | 0, _, _, _, _, _ => none
  | n + 1, y1, y2, y3, y4, σ => (if (sI σ 0 33) ≤ y4 then (if y1 = 0 then (b_X12_ruled_80 (y2) σ) else (b_X12_ruled_80 (y3) σ)) else (f_X12_couldRule y4 (-1 : Int32) σ).bind (fun r12 => (if r12.1 = 0 then (b_X12_ruled_65 (b_X12_ruled_32  n) (y1) (y2) (y3) (y4) r12.2) else (if y2 = 0 then (b_X12_ruled_61 (b_X12_ruled_32  n) (y1) (y2) (y4) (y4) r12.2) else (b_X12_ruled_61 (b_X12_ruled_32  n) (y1) (y2) (y4) (y3) r12.2)))))
set_option maxHeartbeats 4000000 in
set_option maxRecDepth 20000 in
theorem c_X12_ruled_32 {X : CX} {Ω : OM} (hX : CF X Ω RX12 cX12_ruled 5 (some .int) rm_X12_ruled) (hO : OKO Ω) (hΩ : oSH Ω = SHM)    : ∀ (n : Nat) (y1 : Int32) (y2 : Int32) (y3 : Int32) (y4 : Int32) (σ : MS) , GE X Ω 5 0 0 (emWI) 0 0 32 [(0, .ref 0), (1, .int y1), (2, .int y2), (3, .int y3), (4, .int y4)] [] σ (b_X12_ruled_32  n y1 y2 y3 y4 σ)
  | 0, _, _, _, _, _ => g_none
  | n + 1, y1, y2, y3, y4, σ => by
    have hk32 := c_X12_ruled_32 hX hO hΩ  n
    unfold b_X12_ruled_32
    refine g_iload hX (dc_X12_ruled 19 rfl) 4 rfl ?_
    refine g_aload_n hX (dc_X12_ruled 20 rfl) rfl 0 rfl ?_
    refine g_getI hX (dc_X12_ruled 21 rfl) fl_X12_361 (by decide) rfl (stS hΩ 0 rfl) ?_
    refine g_icmp_ge (tgt := 71) hX (dc_X12_ruled 22 rfl) (by decide) (fun h10 => ?_) (fun h10 => ?_)
    · refine g_iload_n hX (dc_X12_ruled 37 rfl) rfl 1 rfl ?_
      refine g_if_ne (tgt := 79) hX (dc_X12_ruled 38 rfl) (by decide) (fun h11 => ?_) (fun h11 => ?_)
      · refine g_iload_n hX (dc_X12_ruled 39 rfl) rfl 2 rfl ?_
        refine g_goto (tgt := 80) hX (dc_X12_ruled 40 rfl) (by decide) ?_
        exact g_sub [] rfl (c_X12_ruled_80 hX hO hΩ (y2) σ)
      · refine g_iload_n hX (dc_X12_ruled 41 rfl) rfl 3 rfl ?_
        exact g_sub [] rfl (c_X12_ruled_80 hX hO hΩ (y3) σ)
    · refine g_aload_n hX (dc_X12_ruled 23 rfl) rfl 0 rfl ?_
      refine g_iload hX (dc_X12_ruled 24 rfl) 4 rfl ?_
      refine g_iconst (w := (-1 : Int32)) hX (dc_X12_ruled 25 rfl) (by decide) ?_
      refine gV_WI (As := [.int y4, .int (-1 : Int32)]) (st := []) hX (dc_X12_ruled 26 rfl) ml_X12_496 (con_X12_couldRule hO hΩ y4 (-1 : Int32) σ) (stS hΩ 0 rfl) rfl rfl ⟨by decide, by decide⟩ ⟨rfl, rfl⟩ ⟨Nat.zero_le _, Nat.zero_le _⟩ (Nat.le_of_ble_eq_true rfl) (fun r12 _ => ?_)
      refine g_if_eq (tgt := 65) hX (dc_X12_ruled 27 rfl) (by decide) (fun h13 => ?_) (fun h13 => ?_)
      · exact g_sub [0, 1, 2, 3, 4] rfl (c_X12_ruled_65 hX hO hΩ _ hk32 (y1) (y2) (y3) (y4) r12.2)
      · refine g_iload_n hX (dc_X12_ruled 28 rfl) rfl 2 rfl ?_
        refine g_if_ne (tgt := 60) hX (dc_X12_ruled 29 rfl) (by decide) (fun h14 => ?_) (fun h14 => ?_)
        · refine g_iload hX (dc_X12_ruled 30 rfl) 4 rfl ?_
          refine g_goto (tgt := 61) hX (dc_X12_ruled 31 rfl) (by decide) ?_
          exact g_sub [0, 1, 2, 4] rfl (c_X12_ruled_61 hX hO hΩ _ hk32 (y1) (y2) (y4) (y4) r12.2)
        · refine g_iload_n hX (dc_X12_ruled 32 rfl) rfl 3 rfl ?_
          exact g_sub [0, 1, 2, 4] rfl (c_X12_ruled_61 hX hO hΩ _ hk32 (y1) (y2) (y4) (y3) r12.2)
def b_X12_ruled_17     (σ : MS) : Option (Int32 × MS) := some ((-3 : Int32), σ)
set_option maxHeartbeats 4000000 in
set_option maxRecDepth 20000 in
theorem c_X12_ruled_17 {X : CX} {Ω : OM} (hX : CF X Ω RX12 cX12_ruled 5 (some .int) rm_X12_ruled) (hO : OKO Ω) (hΩ : oSH Ω = SHM)      (σ : MS)  : GE X Ω 5 0 0 (emWI) 0 0 17 [] [] σ (b_X12_ruled_17  σ) := by
  unfold b_X12_ruled_17
  refine g_bipush (w := (-3 : Int32)) hX (dc_X12_ruled 9 rfl) (by decide) ?_
  exact g_iret hX (dc_X12_ruled 10 rfl) rfl rfl (Nat.le_refl _) (Nat.le_refl _)
def b_X12_ruled_0   (x1 : Int32)  (σ : MS) : Option (Int32 × MS) := (if (sI σ 0 28) = 0 then (b_X12_ruled_17 σ) else (f_X12_in (x1).toInt64 (0 : Int64) (1 : Int64)).bind (fun r16 => (if r16 = 0 then (b_X12_ruled_17 σ) else (f_X12_keepsAll σ).bind (fun r18 => (b_X12_ruled_32 FU (x1) ((0 : Int32)) ((-2 : Int32)) ((-1 : Int32)) r18)))))
set_option maxHeartbeats 4000000 in
set_option maxRecDepth 20000 in
theorem c_X12_ruled_0 {X : CX} {Ω : OM} (hX : CF X Ω RX12 cX12_ruled 5 (some .int) rm_X12_ruled) (hO : OKO Ω) (hΩ : oSH Ω = SHM)    (x1 : Int32)  (σ : MS)  : GE X Ω 5 0 0 (emWI) 0 0 0 [(0, .ref 0), (1, .int x1)] [] σ (b_X12_ruled_0  x1 σ) := by
  unfold b_X12_ruled_0
  refine g_aload_n hX (dc_X12_ruled 0 rfl) rfl 0 rfl ?_
  refine g_getI hX (dc_X12_ruled 1 rfl) fl_X12_341 (by decide) rfl (stS hΩ 0 rfl) ?_
  refine g_if_eq (tgt := 17) hX (dc_X12_ruled 2 rfl) (by decide) (fun h15 => ?_) (fun h15 => ?_)
  · exact g_sub [] rfl (c_X12_ruled_17 hX hO hΩ σ)
  · refine g_iload_n hX (dc_X12_ruled 3 rfl) rfl 1 rfl ?_
    refine g_i2l hX (dc_X12_ruled 4 rfl) ?_
    refine g_lconst (w := (0 : Int64)) hX (dc_X12_ruled 5 rfl) (by decide) ?_
    refine g_lconst (w := (1 : Int64)) hX (dc_X12_ruled 6 rfl) (by decide) ?_
    refine gS_PI (As := [.long (x1).toInt64, .long (0 : Int64), .long (1 : Int64)]) (st := []) hX (dc_X12_ruled 7 rfl) ml_X12_161 (con_X12_in hO hΩ (x1).toInt64 (0 : Int64) (1 : Int64) σ) rfl rfl ⟨by decide, by decide⟩ ⟨rfl, rfl⟩ ⟨Nat.zero_le _, Nat.zero_le _⟩ (Nat.le_of_ble_eq_true rfl) (fun r16 _ => ?_)
    refine g_if_ne (tgt := 20) hX (dc_X12_ruled 8 rfl) (by decide) (fun h17 => ?_) (fun h17 => ?_)
    · exact g_sub [] rfl (c_X12_ruled_17 hX hO hΩ σ)
    · refine g_aload_n hX (dc_X12_ruled 11 rfl) rfl 0 rfl ?_
      refine gV_WV (As := []) (st := []) hX (dc_X12_ruled 12 rfl) ml_X12_462 (con_X12_keepsAll hO hΩ σ) (stS hΩ 0 rfl) rfl rfl ⟨by decide, by decide⟩ ⟨rfl, rfl⟩ ⟨Nat.zero_le _, Nat.zero_le _⟩ (Nat.le_of_ble_eq_true rfl) (fun r18 _ => ?_)
      refine g_iconst (w := (0 : Int32)) hX (dc_X12_ruled 13 rfl) (by decide) ?_
      refine g_istore_n (L' := [(2, .int (0 : Int32)), (0, .ref 0), (1, .int x1)]) hX (dc_X12_ruled 14 rfl) rfl (by decide) rfl ?_
      refine g_bipush (w := (-2 : Int32)) hX (dc_X12_ruled 15 rfl) (by decide) ?_
      refine g_istore_n (L' := [(3, .int (-2 : Int32)), (2, .int (0 : Int32)), (0, .ref 0), (1, .int x1)]) hX (dc_X12_ruled 16 rfl) rfl (by decide) rfl ?_
      refine g_iconst (w := (-1 : Int32)) hX (dc_X12_ruled 17 rfl) (by decide) ?_
      refine g_istore (L' := [(4, .int (-1 : Int32)), (3, .int (-2 : Int32)), (2, .int (0 : Int32)), (0, .ref 0), (1, .int x1)]) hX (dc_X12_ruled 18 rfl) (by decide) rfl ?_
      exact g_sub [3, 4, 2, 1, 0] rfl (c_X12_ruled_32 hX hO hΩ FU (x1) ((0 : Int32)) ((-2 : Int32)) ((-1 : Int32)) r18)
def f_X12_ruled (x1 : Int32) (σ : MS) : Option (Int32 × MS) := b_X12_ruled_0  x1 σ
theorem con_X12_ruled {Ω : OM} (hO : OKO Ω) (hΩ : oSH Ω = SHM) (x1 : Int32) (σ : MS)  : Con Ω yX12_ruled cX12_ruled 5 (some .int) rm_X12_ruled (emWI) [.ref 0, .int x1] σ (f_X12_ruled x1 σ) :=
  con_of hO (by decide +kernel) (Nat.le_of_ble_eq_true rfl) rfl (fun X hX _ => c_X12_ruled_0 hX hO hΩ   x1 σ )
def it_X12_look : List (Nat × Instr × Nat × Nat) := [(0, .aload_n 0, 1, 1), (1, .getfield 341, 3, 4), (4, .ifCond .eq 25, 3, 7), (7, .iload_n 1, 1, 8), (8, .i2l, 1, 9), (9, .lconst 0, 1, 10), (10, .ldc2_w 494, 3, 13), (13, .invokestatic 161, 3, 16), (16, .ifCond .eq 13, 3, 19), (19, .iload_n 2, 1, 20), (20, .i2l, 1, 21), (21, .lconst 0, 1, 22), (22, .lconst 1, 1, 23), (23, .invokestatic 161, 3, 26), (26, .ifCond .ne 5, 3, 29), (29, .iconst (-1), 1, 30), (30, .ireturn, 1, 31), (31, .iconst 0, 1, 32), (32, .istore_n 3, 1, 33), (33, .iload_n 3, 1, 34), (34, .aload_n 0, 1, 35), (35, .getfield 145, 3, 38), (38, .arraylength, 1, 39), (39, .if_icmp .ge 16, 3, 42), (42, .aload_n 0, 1, 43), (43, .getfield 145, 3, 46), (46, .iload_n 3, 1, 47), (47, .iconst 0, 1, 48), (48, .iastore, 1, 49), (49, .iinc 3 1, 3, 52), (52, .goto (-19), 3, 55), (55, .aload_n 0, 1, 56), (56, .invokevirtual 462, 3, 59), (59, .iconst 0, 1, 60), (60, .istore_n 3, 1, 61), (61, .iconst (-1), 1, 62), (62, .istore 4, 2, 64), (64, .iload 4, 2, 66), (66, .aload_n 0, 1, 67), (67, .getfield 361, 3, 70), (70, .if_icmp .ge 65, 3, 73), (73, .aload_n 0, 1, 74), (74, .iload 4, 2, 76), (76, .iload_n 1, 1, 77), (77, .invokevirtual 496, 3, 80), (80, .ifCond .eq 49, 3, 83), (83, .iinc 3 1, 3, 86), (86, .iconst 0, 1, 87), (87, .istore 5, 2, 89), (89, .iload 5, 2, 91), (91, .aload_n 0, 1, 92), (92, .getfield 9, 3, 95), (95, .iconst 4, 1, 96), (96, .iaload, 1, 97), (97, .if_icmp .ge 32, 3, 100), (100, .aload_n 0, 1, 101), (101, .getfield 145, 3, 104), (104, .iconst 5, 1, 105), (105, .iload 5, 2, 107), (107, .imul, 1, 108), (108, .aload_n 0, 1, 109), (109, .getfield 142, 3, 112), (112, .iload 5, 2, 114), (114, .iaload, 1, 115), (115, .iadd, 1, 116), (116, .iconst 1, 1, 117), (117, .iadd, 1, 118), (118, .dup2, 1, 119), (119, .iaload, 1, 120), (120, .iconst 1, 1, 121), (121, .iadd, 1, 122), (122, .iastore, 1, 123), (123, .iinc 5 1, 3, 126), (126, .goto (-37), 3, 129), (129, .iinc 4 1, 3, 132), (132, .goto (-68), 3, 135), (135, .bipush (-2), 2, 137), (137, .istore 4, 2, 139), (139, .bipush (-2), 2, 141), (141, .istore 5, 2, 143), (143, .iconst 0, 1, 144), (144, .istore 6, 2, 146), (146, .iload 6, 2, 148), (148, .aload_n 0, 1, 149), (149, .getfield 9, 3, 152), (152, .iconst 4, 1, 153), (153, .iaload, 1, 154), (154, .if_icmp .ge 87, 3, 157), (157, .iload_n 3, 1, 158), (158, .ifCond .le 83, 3, 161), (161, .iconst 0, 1, 162), (162, .istore 7, 2, 164), (164, .iconst 5, 1, 165), (165, .iload 6, 2, 167), (167, .imul, 1, 168), (168, .istore 8, 2, 170), (170, .iload 8, 2, 172), (172, .iconst 5, 1, 173), (173, .iload 6, 2, 175), (175, .iconst 1, 1, 176), (176, .iadd, 1, 177), (177, .imul, 1, 178), (178, .if_icmp .ge 35, 3, 181), (181, .aload_n 0, 1, 182), (182, .getfield 145, 3, 185), (185, .iload 8, 2, 187), (187, .iaload, 1, 188), (188, .iload 7, 2, 190), (190, .if_icmp .le 13, 3, 193), (193, .aload_n 0, 1, 194), (194, .getfield 145, 3, 197), (197, .iload 8, 2, 199), (199, .iaload, 1, 200), (200, .goto 5, 3, 203), (203, .iload 7, 2, 205), (205, .istore 7, 2, 207), (207, .iinc 8 1, 3, 210), (210, .goto (-40), 3, 213), (213, .iload 4, 2, 215), (215, .bipush (-2), 2, 217), (217, .if_icmp .eq 10, 3, 220), (220, .iload 7, 2, 222), (222, .iload 5, 2, 224), (224, .if_icmp .ge 11, 3, 227), (227, .iload 6, 2, 229), (229, .istore 4, 2, 231), (231, .iload 7, 2, 233), (233, .istore 5, 2, 235), (235, .iinc 6 1, 3, 238), (238, .goto (-92), 3, 241), (241, .iload_n 2, 1, 242), (242, .ifCond .ne 8, 3, 245), (245, .iload 4, 2, 247), (247, .goto 5, 3, 250), (250, .iload 5, 2, 252), (252, .ireturn, 1, 253)]
theorem id_X12_look : ∀ q ∈ it_X12_look, decode cX12_look q.1 = .ok (q.2.1, q.2.2.1) ∧ q.1 + q.2.2.1 = q.2.2.2 := by decide +kernel
theorem dc_X12_look {pc : Nat} {i : Instr} {n pc' : Nat} (j : Nat) (h : it_X12_look[j]? = some (pc, i, n, pc')) : Dc cX12_look pc i n pc' := dc_of id_X12_look j h
abbrev rm_X12_look : Room := { frames := 8, cells := 0, slots := 0, locals := 190 }
def b_X12_look_252    (s0 : Int32) (σ : MS) : Option (Int32 × MS) := some (s0, σ)
set_option maxHeartbeats 4000000 in
set_option maxRecDepth 20000 in
theorem c_X12_look_252 {X : CX} {Ω : OM} (hX : CF X Ω RX12 cX12_look 9 (some .int) rm_X12_look) (hO : OKO Ω) (hΩ : oSH Ω = SHM)     (s0 : Int32) (σ : MS)  : GE X Ω 9 0 0 (emWI) 0 0 252 [] [.int s0] σ (b_X12_look_252  s0 σ) := by
  unfold b_X12_look_252
  exact g_iret hX (dc_X12_look 135 rfl) rfl rfl (Nat.le_refl _) (Nat.le_refl _)
def b_X12_look_241    (y2 : Int32) (y4 : Int32) (y5 : Int32) (σ : MS) : Option (Int32 × MS) := (if y2 = 0 then (b_X12_look_252 (y4) σ) else (b_X12_look_252 (y5) σ))
set_option maxHeartbeats 4000000 in
set_option maxRecDepth 20000 in
theorem c_X12_look_241 {X : CX} {Ω : OM} (hX : CF X Ω RX12 cX12_look 9 (some .int) rm_X12_look) (hO : OKO Ω) (hΩ : oSH Ω = SHM)     (y2 : Int32) (y4 : Int32) (y5 : Int32) (σ : MS)  : GE X Ω 9 0 0 (emWI) 0 0 241 [(2, .int y2), (4, .int y4), (5, .int y5)] [] σ (b_X12_look_241  y2 y4 y5 σ) := by
  unfold b_X12_look_241
  refine g_iload_n hX (dc_X12_look 130 rfl) rfl 0 rfl ?_
  refine g_if_ne (tgt := 250) hX (dc_X12_look 131 rfl) (by decide) (fun h25 => ?_) (fun h25 => ?_)
  · refine g_iload hX (dc_X12_look 132 rfl) 1 rfl ?_
    refine g_goto (tgt := 252) hX (dc_X12_look 133 rfl) (by decide) ?_
    exact g_sub [] rfl (c_X12_look_252 hX hO hΩ (y4) σ)
  · refine g_iload hX (dc_X12_look 134 rfl) 2 rfl ?_
    exact g_sub [] rfl (c_X12_look_252 hX hO hΩ (y5) σ)
def b_X12_look_235  (k146 : Int32 → Int32 → Int32 → Int32 → Int32 → MS → Option (Int32 × MS))  (y2 : Int32) (y3 : Int32) (y4 : Int32) (y5 : Int32) (y6 : Int32) (σ : MS) : Option (Int32 × MS) := (k146 (y2) (y3) (y4) (y5) ((y6 + (1 : Int32))) σ)
set_option maxHeartbeats 4000000 in
set_option maxRecDepth 20000 in
theorem c_X12_look_235 {X : CX} {Ω : OM} (hX : CF X Ω RX12 cX12_look 9 (some .int) rm_X12_look) (hO : OKO Ω) (hΩ : oSH Ω = SHM)   (k146 : Int32 → Int32 → Int32 → Int32 → Int32 → MS → Option (Int32 × MS)) (hk146 : ∀ (y2 : Int32) (y3 : Int32) (y4 : Int32) (y5 : Int32) (y6 : Int32) (σ : MS) , GE X Ω 9 0 0 (emWI) 0 0 146 [(0, .ref 0), (2, .int y2), (3, .int y3), (4, .int y4), (5, .int y5), (6, .int y6)] [] σ (k146 y2 y3 y4 y5 y6 σ))  (y2 : Int32) (y3 : Int32) (y4 : Int32) (y5 : Int32) (y6 : Int32) (σ : MS)  : GE X Ω 9 0 0 (emWI) 0 0 235 [(0, .ref 0), (2, .int y2), (3, .int y3), (4, .int y4), (5, .int y5), (6, .int y6)] [] σ (b_X12_look_235  k146 y2 y3 y4 y5 y6 σ) := by
  unfold b_X12_look_235
  refine g_iinc (w := (y6 + (1 : Int32))) (L' := [(6, .int (y6 + (1 : Int32))), (0, .ref 0), (2, .int y2), (3, .int y3), (4, .int y4), (5, .int y5)]) hX (dc_X12_look 128 rfl) 5 rfl rfl (by decide) rfl ?_
  refine g_goto (tgt := 146) hX (dc_X12_look 129 rfl) (by decide) ?_
  exact g_sub [1, 2, 3, 4, 5, 0] rfl (hk146 (y2) (y3) (y4) (y5) ((y6 + (1 : Int32))) σ )
def b_X12_look_227  (k146 : Int32 → Int32 → Int32 → Int32 → Int32 → MS → Option (Int32 × MS))  (y2 : Int32) (y3 : Int32) (y6 : Int32) (y7 : Int32) (σ : MS) : Option (Int32 × MS) := (b_X12_look_235 k146 (y2) (y3) (y6) (y7) (y6) σ)
set_option maxHeartbeats 4000000 in
set_option maxRecDepth 20000 in
theorem c_X12_look_227 {X : CX} {Ω : OM} (hX : CF X Ω RX12 cX12_look 9 (some .int) rm_X12_look) (hO : OKO Ω) (hΩ : oSH Ω = SHM)   (k146 : Int32 → Int32 → Int32 → Int32 → Int32 → MS → Option (Int32 × MS)) (hk146 : ∀ (y2 : Int32) (y3 : Int32) (y4 : Int32) (y5 : Int32) (y6 : Int32) (σ : MS) , GE X Ω 9 0 0 (emWI) 0 0 146 [(0, .ref 0), (2, .int y2), (3, .int y3), (4, .int y4), (5, .int y5), (6, .int y6)] [] σ (k146 y2 y3 y4 y5 y6 σ))  (y2 : Int32) (y3 : Int32) (y6 : Int32) (y7 : Int32) (σ : MS)  : GE X Ω 9 0 0 (emWI) 0 0 227 [(0, .ref 0), (2, .int y2), (3, .int y3), (6, .int y6), (7, .int y7)] [] σ (b_X12_look_227  k146 y2 y3 y6 y7 σ) := by
  unfold b_X12_look_227
  refine g_iload hX (dc_X12_look 124 rfl) 3 rfl ?_
  refine g_istore (L' := [(4, .int y6), (0, .ref 0), (2, .int y2), (3, .int y3), (6, .int y6), (7, .int y7)]) hX (dc_X12_look 125 rfl) (by decide) rfl ?_
  refine g_iload hX (dc_X12_look 126 rfl) 5 rfl ?_
  refine g_istore (L' := [(5, .int y7), (4, .int y6), (0, .ref 0), (2, .int y2), (3, .int y3), (6, .int y6), (7, .int y7)]) hX (dc_X12_look 127 rfl) (by decide) rfl ?_
  exact g_sub [2, 3, 4, 1, 0, 5] rfl (c_X12_look_235 hX hO hΩ _ hk146 (y2) (y3) (y6) (y7) (y6) σ)
def b_X12_look_205  (k146 : Int32 → Int32 → Int32 → Int32 → Int32 → MS → Option (Int32 × MS)) (k170 : Int32 → Int32 → Int32 → Int32 → Int32 → Int32 → Int32 → MS → Option (Int32 × MS))  (y2 : Int32) (y3 : Int32) (y4 : Int32) (y5 : Int32) (y6 : Int32) (y8 : Int32) (s0 : Int32) (σ : MS) : Option (Int32 × MS) := (k170 (y2) (y3) (y4) (y5) (y6) (s0) ((y8 + (1 : Int32))) σ)
set_option maxHeartbeats 4000000 in
set_option maxRecDepth 20000 in
theorem c_X12_look_205 {X : CX} {Ω : OM} (hX : CF X Ω RX12 cX12_look 9 (some .int) rm_X12_look) (hO : OKO Ω) (hΩ : oSH Ω = SHM)   (k146 : Int32 → Int32 → Int32 → Int32 → Int32 → MS → Option (Int32 × MS)) (hk146 : ∀ (y2 : Int32) (y3 : Int32) (y4 : Int32) (y5 : Int32) (y6 : Int32) (σ : MS) , GE X Ω 9 0 0 (emWI) 0 0 146 [(0, .ref 0), (2, .int y2), (3, .int y3), (4, .int y4), (5, .int y5), (6, .int y6)] [] σ (k146 y2 y3 y4 y5 y6 σ)) (k170 : Int32 → Int32 → Int32 → Int32 → Int32 → Int32 → Int32 → MS → Option (Int32 × MS)) (hk170 : ∀ (y2 : Int32) (y3 : Int32) (y4 : Int32) (y5 : Int32) (y6 : Int32) (y7 : Int32) (y8 : Int32) (σ : MS) , GE X Ω 9 0 0 (emWI) 0 0 170 [(0, .ref 0), (2, .int y2), (3, .int y3), (4, .int y4), (5, .int y5), (6, .int y6), (7, .int y7), (8, .int y8)] [] σ (k170 y2 y3 y4 y5 y6 y7 y8 σ))  (y2 : Int32) (y3 : Int32) (y4 : Int32) (y5 : Int32) (y6 : Int32) (y8 : Int32) (s0 : Int32) (σ : MS)  : GE X Ω 9 0 0 (emWI) 0 0 205 [(0, .ref 0), (2, .int y2), (3, .int y3), (4, .int y4), (5, .int y5), (6, .int y6), (8, .int y8)] [.int s0] σ (b_X12_look_205  k146 k170 y2 y3 y4 y5 y6 y8 s0 σ) := by
  unfold b_X12_look_205
  refine g_istore (L' := [(7, .int s0), (0, .ref 0), (2, .int y2), (3, .int y3), (4, .int y4), (5, .int y5), (6, .int y6), (8, .int y8)]) hX (dc_X12_look 115 rfl) (by decide) rfl ?_
  refine g_iinc (w := (y8 + (1 : Int32))) (L' := [(8, .int (y8 + (1 : Int32))), (7, .int s0), (0, .ref 0), (2, .int y2), (3, .int y3), (4, .int y4), (5, .int y5), (6, .int y6)]) hX (dc_X12_look 116 rfl) 7 rfl rfl (by decide) rfl ?_
  refine g_goto (tgt := 170) hX (dc_X12_look 117 rfl) (by decide) ?_
  exact g_sub [2, 3, 4, 5, 6, 7, 1, 0] rfl (hk170 (y2) (y3) (y4) (y5) (y6) (s0) ((y8 + (1 : Int32))) σ )
def b_X12_look_170  (k146 : Int32 → Int32 → Int32 → Int32 → Int32 → MS → Option (Int32 × MS)) : Nat → Int32 → Int32 → Int32 → Int32 → Int32 → Int32 → Int32 → MS → Option (Int32 × MS)
  | 0, _, _, _, _, _, _, _, _ => none
  | n + 1, y2, y3, y4, y5, y6, y7, y8, σ => (if ((5 : Int32) * (y6 + (1 : Int32))) ≤ y8 then (if y4 = (-2 : Int32) then (b_X12_look_227 k146 (y2) (y3) (y6) (y7) σ) else (if y5 ≤ y7 then (b_X12_look_235 k146 (y2) (y3) (y4) (y5) (y6) σ) else (b_X12_look_227 k146 (y2) (y3) (y6) (y7) σ))) else chk (inb y8 30) ((if (sI σ 44 (ix y8)) ≤ y7 then (b_X12_look_205 k146 (b_X12_look_170  k146 n) (y2) (y3) (y4) (y5) (y6) (y8) (y7) σ) else chk (inb y8 30) ((b_X12_look_205 k146 (b_X12_look_170  k146 n) (y2) (y3) (y4) (y5) (y6) (y8) ((sI σ 44 (ix y8))) σ)))))
set_option maxHeartbeats 4000000 in
set_option maxRecDepth 20000 in
theorem c_X12_look_170 {X : CX} {Ω : OM} (hX : CF X Ω RX12 cX12_look 9 (some .int) rm_X12_look) (hO : OKO Ω) (hΩ : oSH Ω = SHM)   (k146 : Int32 → Int32 → Int32 → Int32 → Int32 → MS → Option (Int32 × MS)) (hk146 : ∀ (y2 : Int32) (y3 : Int32) (y4 : Int32) (y5 : Int32) (y6 : Int32) (σ : MS) , GE X Ω 9 0 0 (emWI) 0 0 146 [(0, .ref 0), (2, .int y2), (3, .int y3), (4, .int y4), (5, .int y5), (6, .int y6)] [] σ (k146 y2 y3 y4 y5 y6 σ)) : ∀ (n : Nat) (y2 : Int32) (y3 : Int32) (y4 : Int32) (y5 : Int32) (y6 : Int32) (y7 : Int32) (y8 : Int32) (σ : MS) , GE X Ω 9 0 0 (emWI) 0 0 170 [(0, .ref 0), (2, .int y2), (3, .int y3), (4, .int y4), (5, .int y5), (6, .int y6), (7, .int y7), (8, .int y8)] [] σ (b_X12_look_170  k146 n y2 y3 y4 y5 y6 y7 y8 σ)
  | 0, _, _, _, _, _, _, _, _ => g_none
  | n + 1, y2, y3, y4, y5, y6, y7, y8, σ => by
    have hk170 := c_X12_look_170 hX hO hΩ  k146 hk146 n
    unfold b_X12_look_170
    refine g_iload hX (dc_X12_look 96 rfl) 7 rfl ?_
    refine g_iconst (w := (5 : Int32)) hX (dc_X12_look 97 rfl) (by decide) ?_
    refine g_iload hX (dc_X12_look 98 rfl) 5 rfl ?_
    refine g_iconst (w := (1 : Int32)) hX (dc_X12_look 99 rfl) (by decide) ?_
    refine g_iadd hX (dc_X12_look 100 rfl) ?_
    refine g_imul hX (dc_X12_look 101 rfl) ?_
    refine g_icmp_ge (tgt := 213) hX (dc_X12_look 102 rfl) (by decide) (fun h26 => ?_) (fun h26 => ?_)
    · refine g_iload hX (dc_X12_look 118 rfl) 3 rfl ?_
      refine g_bipush (w := (-2 : Int32)) hX (dc_X12_look 119 rfl) (by decide) ?_
      refine g_icmp_eq (tgt := 227) hX (dc_X12_look 120 rfl) (by decide) (fun h27 => ?_) (fun h27 => ?_)
      · exact g_sub [0, 1, 2, 5, 6] rfl (c_X12_look_227 hX hO hΩ _ hk146 (y2) (y3) (y6) (y7) σ)
      · refine g_iload hX (dc_X12_look 121 rfl) 6 rfl ?_
        refine g_iload hX (dc_X12_look 122 rfl) 4 rfl ?_
        refine g_icmp_ge (tgt := 235) hX (dc_X12_look 123 rfl) (by decide) (fun h28 => ?_) (fun h28 => ?_)
        · exact g_sub [0, 1, 2, 3, 4, 5] rfl (c_X12_look_235 hX hO hΩ _ hk146 (y2) (y3) (y4) (y5) (y6) σ)
        · exact g_sub [0, 1, 2, 5, 6] rfl (c_X12_look_227 hX hO hΩ _ hk146 (y2) (y3) (y6) (y7) σ)
    · refine g_aload_n hX (dc_X12_look 103 rfl) rfl 0 rfl ?_
      refine g_getF (q := 44) hX (dc_X12_look 104 rfl) fl_X12_145 (by decide) rfl (stS hΩ 0 rfl) rfl ?_
      refine g_iload hX (dc_X12_look 105 rfl) 7 rfl ?_
      refine g_chk (fun hc29 => ?_)
      refine g_iald hX (dc_X12_look 106 rfl) (stS hΩ 44 rfl) hc29 rfl ?_
      refine g_iload hX (dc_X12_look 107 rfl) 6 rfl ?_
      refine g_icmp_le (tgt := 203) hX (dc_X12_look 108 rfl) (by decide) (fun h30 => ?_) (fun h30 => ?_)
      · refine g_iload hX (dc_X12_look 114 rfl) 6 rfl ?_
        exact g_sub [0, 1, 2, 3, 4, 5, 7] rfl (c_X12_look_205 hX hO hΩ _ hk146 _ hk170 (y2) (y3) (y4) (y5) (y6) (y8) (y7) σ)
      · refine g_aload_n hX (dc_X12_look 109 rfl) rfl 0 rfl ?_
        refine g_getF (q := 44) hX (dc_X12_look 110 rfl) fl_X12_145 (by decide) rfl (stS hΩ 0 rfl) rfl ?_
        refine g_iload hX (dc_X12_look 111 rfl) 7 rfl ?_
        refine g_chk (fun hc31 => ?_)
        refine g_iald hX (dc_X12_look 112 rfl) (stS hΩ 44 rfl) hc31 rfl ?_
        refine g_goto (tgt := 205) hX (dc_X12_look 113 rfl) (by decide) ?_
        exact g_sub [0, 1, 2, 3, 4, 5, 7] rfl (c_X12_look_205 hX hO hΩ _ hk146 _ hk170 (y2) (y3) (y4) (y5) (y6) (y8) ((sI σ 44 (ix y8))) σ)
def b_X12_look_146   : Nat → Int32 → Int32 → Int32 → Int32 → Int32 → MS → Option (Int32 × MS)
  | 0, _, _, _, _, _, _ => none
  | n + 1, y2, y3, y4, y5, y6, σ => (if (sI σ 1 4) ≤ y6 then (b_X12_look_241 (y2) (y4) (y5) σ) else (if y3 ≤ 0 then (b_X12_look_241 (y2) (y4) (y5) σ) else (b_X12_look_170 (b_X12_look_146  n) FU (y2) (y3) (y4) (y5) (y6) ((0 : Int32)) (((5 : Int32) * y6)) σ)))
set_option maxHeartbeats 4000000 in
set_option maxRecDepth 20000 in
theorem c_X12_look_146 {X : CX} {Ω : OM} (hX : CF X Ω RX12 cX12_look 9 (some .int) rm_X12_look) (hO : OKO Ω) (hΩ : oSH Ω = SHM)    : ∀ (n : Nat) (y2 : Int32) (y3 : Int32) (y4 : Int32) (y5 : Int32) (y6 : Int32) (σ : MS) , GE X Ω 9 0 0 (emWI) 0 0 146 [(0, .ref 0), (2, .int y2), (3, .int y3), (4, .int y4), (5, .int y5), (6, .int y6)] [] σ (b_X12_look_146  n y2 y3 y4 y5 y6 σ)
  | 0, _, _, _, _, _, _ => g_none
  | n + 1, y2, y3, y4, y5, y6, σ => by
    have hk146 := c_X12_look_146 hX hO hΩ  n
    unfold b_X12_look_146
    refine g_iload hX (dc_X12_look 82 rfl) 5 rfl ?_
    refine g_aload_n hX (dc_X12_look 83 rfl) rfl 0 rfl ?_
    refine g_getF (q := 1) hX (dc_X12_look 84 rfl) fl_X12_9 (by decide) rfl (stS hΩ 0 rfl) rfl ?_
    refine g_iconst (w := (4 : Int32)) hX (dc_X12_look 85 rfl) (by decide) ?_
    refine g_iald (j := 4) hX (dc_X12_look 86 rfl) (stS hΩ 1 rfl) (by decide) (by decide) ?_
    refine g_icmp_ge (tgt := 241) hX (dc_X12_look 87 rfl) (by decide) (fun h32 => ?_) (fun h32 => ?_)
    · exact g_sub [1, 3, 4] rfl (c_X12_look_241 hX hO hΩ (y2) (y4) (y5) σ)
    · refine g_iload_n hX (dc_X12_look 88 rfl) rfl 2 rfl ?_
      refine g_if_le (tgt := 241) hX (dc_X12_look 89 rfl) (by decide) (fun h33 => ?_) (fun h33 => ?_)
      · exact g_sub [1, 3, 4] rfl (c_X12_look_241 hX hO hΩ (y2) (y4) (y5) σ)
      · refine g_iconst (w := (0 : Int32)) hX (dc_X12_look 90 rfl) (by decide) ?_
        refine g_istore (L' := [(7, .int (0 : Int32)), (0, .ref 0), (2, .int y2), (3, .int y3), (4, .int y4), (5, .int y5), (6, .int y6)]) hX (dc_X12_look 91 rfl) (by decide) rfl ?_
        refine g_iconst (w := (5 : Int32)) hX (dc_X12_look 92 rfl) (by decide) ?_
        refine g_iload hX (dc_X12_look 93 rfl) 6 rfl ?_
        refine g_imul hX (dc_X12_look 94 rfl) ?_
        refine g_istore (L' := [(8, .int ((5 : Int32) * y6)), (7, .int (0 : Int32)), (0, .ref 0), (2, .int y2), (3, .int y3), (4, .int y4), (5, .int y5), (6, .int y6)]) hX (dc_X12_look 95 rfl) (by decide) rfl ?_
        exact g_sub [2, 3, 4, 5, 6, 7, 1, 0] rfl (c_X12_look_170 hX hO hΩ _ hk146 FU (y2) (y3) (y4) (y5) (y6) ((0 : Int32)) (((5 : Int32) * y6)) σ)
def b_X12_look_129  (k64 : Int32 → Int32 → Int32 → Int32 → MS → Option (Int32 × MS))  (y1 : Int32) (y2 : Int32) (y3 : Int32) (y4 : Int32) (σ : MS) : Option (Int32 × MS) := (k64 (y1) (y2) (y3) ((y4 + (1 : Int32))) σ)
set_option maxHeartbeats 4000000 in
set_option maxRecDepth 20000 in
theorem c_X12_look_129 {X : CX} {Ω : OM} (hX : CF X Ω RX12 cX12_look 9 (some .int) rm_X12_look) (hO : OKO Ω) (hΩ : oSH Ω = SHM)   (k64 : Int32 → Int32 → Int32 → Int32 → MS → Option (Int32 × MS)) (hk64 : ∀ (y1 : Int32) (y2 : Int32) (y3 : Int32) (y4 : Int32) (σ : MS) , GE X Ω 9 0 0 (emWI) 0 0 64 [(0, .ref 0), (1, .int y1), (2, .int y2), (3, .int y3), (4, .int y4)] [] σ (k64 y1 y2 y3 y4 σ))  (y1 : Int32) (y2 : Int32) (y3 : Int32) (y4 : Int32) (σ : MS)  : GE X Ω 9 0 0 (emWI) 0 0 129 [(0, .ref 0), (1, .int y1), (2, .int y2), (3, .int y3), (4, .int y4)] [] σ (b_X12_look_129  k64 y1 y2 y3 y4 σ) := by
  unfold b_X12_look_129
  refine g_iinc (w := (y4 + (1 : Int32))) (L' := [(4, .int (y4 + (1 : Int32))), (0, .ref 0), (1, .int y1), (2, .int y2), (3, .int y3)]) hX (dc_X12_look 74 rfl) 4 rfl rfl (by decide) rfl ?_
  refine g_goto (tgt := 64) hX (dc_X12_look 75 rfl) (by decide) ?_
  exact g_sub [1, 2, 3, 4, 0] rfl (hk64 (y1) (y2) (y3) ((y4 + (1 : Int32))) σ )
def b_X12_look_123  (k64 : Int32 → Int32 → Int32 → Int32 → MS → Option (Int32 × MS)) (k89 : Int32 → Int32 → Int32 → Int32 → Int32 → MS → Option (Int32 × MS))  (y1 : Int32) (y2 : Int32) (y3 : Int32) (y4 : Int32) (y5 : Int32) (σ : MS) : Option (Int32 × MS) := (k89 (y1) (y2) (y3) (y4) ((y5 + (1 : Int32))) σ)
set_option maxHeartbeats 4000000 in
set_option maxRecDepth 20000 in
theorem c_X12_look_123 {X : CX} {Ω : OM} (hX : CF X Ω RX12 cX12_look 9 (some .int) rm_X12_look) (hO : OKO Ω) (hΩ : oSH Ω = SHM)   (k64 : Int32 → Int32 → Int32 → Int32 → MS → Option (Int32 × MS)) (hk64 : ∀ (y1 : Int32) (y2 : Int32) (y3 : Int32) (y4 : Int32) (σ : MS) , GE X Ω 9 0 0 (emWI) 0 0 64 [(0, .ref 0), (1, .int y1), (2, .int y2), (3, .int y3), (4, .int y4)] [] σ (k64 y1 y2 y3 y4 σ)) (k89 : Int32 → Int32 → Int32 → Int32 → Int32 → MS → Option (Int32 × MS)) (hk89 : ∀ (y1 : Int32) (y2 : Int32) (y3 : Int32) (y4 : Int32) (y5 : Int32) (σ : MS) , GE X Ω 9 0 0 (emWI) 0 0 89 [(0, .ref 0), (1, .int y1), (2, .int y2), (3, .int y3), (4, .int y4), (5, .int y5)] [] σ (k89 y1 y2 y3 y4 y5 σ))  (y1 : Int32) (y2 : Int32) (y3 : Int32) (y4 : Int32) (y5 : Int32) (σ : MS)  : GE X Ω 9 0 0 (emWI) 0 0 123 [(0, .ref 0), (1, .int y1), (2, .int y2), (3, .int y3), (4, .int y4), (5, .int y5)] [] σ (b_X12_look_123  k64 k89 y1 y2 y3 y4 y5 σ) := by
  unfold b_X12_look_123
  refine g_iinc (w := (y5 + (1 : Int32))) (L' := [(5, .int (y5 + (1 : Int32))), (0, .ref 0), (1, .int y1), (2, .int y2), (3, .int y3), (4, .int y4)]) hX (dc_X12_look 72 rfl) 5 rfl rfl (by decide) rfl ?_
  refine g_goto (tgt := 89) hX (dc_X12_look 73 rfl) (by decide) ?_
  exact g_sub [1, 2, 3, 4, 5, 0] rfl (hk89 (y1) (y2) (y3) (y4) ((y5 + (1 : Int32))) σ )
def b_X12_look_89  (k64 : Int32 → Int32 → Int32 → Int32 → MS → Option (Int32 × MS)) : Nat → Int32 → Int32 → Int32 → Int32 → Int32 → MS → Option (Int32 × MS)
  | 0, _, _, _, _, _, _ => none
  | n + 1, y1, y2, y3, y4, y5, σ => (if (sI σ 1 4) ≤ y5 then (b_X12_look_129 k64 (y1) (y2) (y3) (y4) σ) else chk (inb y5 6) (chk (inb ((((5 : Int32) * y5) + (sI σ 43 (ix y5))) + (1 : Int32)) 30) (chk (inb ((((5 : Int32) * y5) + (sI σ 43 (ix y5))) + (1 : Int32)) 30) ((b_X12_look_123 k64 (b_X12_look_89  k64 n) (y1) (y2) (y3) (y4) (y5) (wI σ 44 (ix ((((5 : Int32) * y5) + (sI σ 43 (ix y5))) + (1 : Int32))) ((sI σ 44 (ix ((((5 : Int32) * y5) + (sI σ 43 (ix y5))) + (1 : Int32)))) + (1 : Int32))))))))
set_option maxHeartbeats 4000000 in
set_option maxRecDepth 20000 in
theorem c_X12_look_89 {X : CX} {Ω : OM} (hX : CF X Ω RX12 cX12_look 9 (some .int) rm_X12_look) (hO : OKO Ω) (hΩ : oSH Ω = SHM)   (k64 : Int32 → Int32 → Int32 → Int32 → MS → Option (Int32 × MS)) (hk64 : ∀ (y1 : Int32) (y2 : Int32) (y3 : Int32) (y4 : Int32) (σ : MS) , GE X Ω 9 0 0 (emWI) 0 0 64 [(0, .ref 0), (1, .int y1), (2, .int y2), (3, .int y3), (4, .int y4)] [] σ (k64 y1 y2 y3 y4 σ)) : ∀ (n : Nat) (y1 : Int32) (y2 : Int32) (y3 : Int32) (y4 : Int32) (y5 : Int32) (σ : MS) , GE X Ω 9 0 0 (emWI) 0 0 89 [(0, .ref 0), (1, .int y1), (2, .int y2), (3, .int y3), (4, .int y4), (5, .int y5)] [] σ (b_X12_look_89  k64 n y1 y2 y3 y4 y5 σ)
  | 0, _, _, _, _, _, _ => g_none
  | n + 1, y1, y2, y3, y4, y5, σ => by
    have hk89 := c_X12_look_89 hX hO hΩ  k64 hk64 n
    unfold b_X12_look_89
    refine g_iload hX (dc_X12_look 49 rfl) 5 rfl ?_
    refine g_aload_n hX (dc_X12_look 50 rfl) rfl 0 rfl ?_
    refine g_getF (q := 1) hX (dc_X12_look 51 rfl) fl_X12_9 (by decide) rfl (stS hΩ 0 rfl) rfl ?_
    refine g_iconst (w := (4 : Int32)) hX (dc_X12_look 52 rfl) (by decide) ?_
    refine g_iald (j := 4) hX (dc_X12_look 53 rfl) (stS hΩ 1 rfl) (by decide) (by decide) ?_
    refine g_icmp_ge (tgt := 129) hX (dc_X12_look 54 rfl) (by decide) (fun h34 => ?_) (fun h34 => ?_)
    · exact g_sub [0, 1, 2, 3, 4] rfl (c_X12_look_129 hX hO hΩ _ hk64 (y1) (y2) (y3) (y4) σ)
    · refine g_aload_n hX (dc_X12_look 55 rfl) rfl 0 rfl ?_
      refine g_getF (q := 44) hX (dc_X12_look 56 rfl) fl_X12_145 (by decide) rfl (stS hΩ 0 rfl) rfl ?_
      refine g_iconst (w := (5 : Int32)) hX (dc_X12_look 57 rfl) (by decide) ?_
      refine g_iload hX (dc_X12_look 58 rfl) 5 rfl ?_
      refine g_imul hX (dc_X12_look 59 rfl) ?_
      refine g_aload_n hX (dc_X12_look 60 rfl) rfl 0 rfl ?_
      refine g_getF (q := 43) hX (dc_X12_look 61 rfl) fl_X12_142 (by decide) rfl (stS hΩ 0 rfl) rfl ?_
      refine g_iload hX (dc_X12_look 62 rfl) 5 rfl ?_
      refine g_chk (fun hc35 => ?_)
      refine g_iald hX (dc_X12_look 63 rfl) (stS hΩ 43 rfl) hc35 rfl ?_
      refine g_iadd hX (dc_X12_look 64 rfl) ?_
      refine g_iconst (w := (1 : Int32)) hX (dc_X12_look 65 rfl) (by decide) ?_
      refine g_iadd hX (dc_X12_look 66 rfl) ?_
      refine g_dup2 hX (dc_X12_look 67 rfl) rfl rfl ?_
      refine g_chk (fun hc36 => ?_)
      refine g_iald hX (dc_X12_look 68 rfl) (stS hΩ 44 rfl) hc36 rfl ?_
      refine g_iconst (w := (1 : Int32)) hX (dc_X12_look 69 rfl) (by decide) ?_
      refine g_iadd hX (dc_X12_look 70 rfl) ?_
      refine g_chk (fun hc37 => ?_)
      refine g_iast hX (dc_X12_look 71 rfl) (stS hΩ 44 rfl) hc37 rfl ?_
      exact g_sub [0, 1, 2, 3, 4, 5] rfl (c_X12_look_123 hX hO hΩ _ hk64 _ hk89 (y1) (y2) (y3) (y4) (y5) (wI σ 44 (ix ((((5 : Int32) * y5) + (sI σ 43 (ix y5))) + (1 : Int32))) ((sI σ 44 (ix ((((5 : Int32) * y5) + (sI σ 43 (ix y5))) + (1 : Int32)))) + (1 : Int32))))
def b_X12_look_64   : Nat → Int32 → Int32 → Int32 → Int32 → MS → Option (Int32 × MS)
  | 0, _, _, _, _, _ => none
  | n + 1, y1, y2, y3, y4, σ => (if (sI σ 0 33) ≤ y4 then (b_X12_look_146 FU (y2) (y3) ((-2 : Int32)) ((-2 : Int32)) ((0 : Int32)) σ) else (f_X12_couldRule y4 y1 σ).bind (fun r39 => (if r39.1 = 0 then (b_X12_look_129 (b_X12_look_64  n) (y1) (y2) (y3) (y4) r39.2) else (b_X12_look_89 (b_X12_look_64  n) FU (y1) (y2) ((y3 + (1 : Int32))) (y4) ((0 : Int32)) r39.2))))
set_option maxHeartbeats 4000000 in
set_option maxRecDepth 20000 in
theorem c_X12_look_64 {X : CX} {Ω : OM} (hX : CF X Ω RX12 cX12_look 9 (some .int) rm_X12_look) (hO : OKO Ω) (hΩ : oSH Ω = SHM)    : ∀ (n : Nat) (y1 : Int32) (y2 : Int32) (y3 : Int32) (y4 : Int32) (σ : MS) , GE X Ω 9 0 0 (emWI) 0 0 64 [(0, .ref 0), (1, .int y1), (2, .int y2), (3, .int y3), (4, .int y4)] [] σ (b_X12_look_64  n y1 y2 y3 y4 σ)
  | 0, _, _, _, _, _ => g_none
  | n + 1, y1, y2, y3, y4, σ => by
    have hk64 := c_X12_look_64 hX hO hΩ  n
    unfold b_X12_look_64
    refine g_iload hX (dc_X12_look 37 rfl) 4 rfl ?_
    refine g_aload_n hX (dc_X12_look 38 rfl) rfl 0 rfl ?_
    refine g_getI hX (dc_X12_look 39 rfl) fl_X12_361 (by decide) rfl (stS hΩ 0 rfl) ?_
    refine g_icmp_ge (tgt := 135) hX (dc_X12_look 40 rfl) (by decide) (fun h38 => ?_) (fun h38 => ?_)
    · refine g_bipush (w := (-2 : Int32)) hX (dc_X12_look 76 rfl) (by decide) ?_
      refine g_istore (L' := [(4, .int (-2 : Int32)), (0, .ref 0), (1, .int y1), (2, .int y2), (3, .int y3)]) hX (dc_X12_look 77 rfl) (by decide) rfl ?_
      refine g_bipush (w := (-2 : Int32)) hX (dc_X12_look 78 rfl) (by decide) ?_
      refine g_istore (L' := [(5, .int (-2 : Int32)), (4, .int (-2 : Int32)), (0, .ref 0), (1, .int y1), (2, .int y2), (3, .int y3)]) hX (dc_X12_look 79 rfl) (by decide) rfl ?_
      refine g_iconst (w := (0 : Int32)) hX (dc_X12_look 80 rfl) (by decide) ?_
      refine g_istore (L' := [(6, .int (0 : Int32)), (5, .int (-2 : Int32)), (4, .int (-2 : Int32)), (0, .ref 0), (1, .int y1), (2, .int y2), (3, .int y3)]) hX (dc_X12_look 81 rfl) (by decide) rfl ?_
      exact g_sub [3, 5, 6, 2, 1, 0] rfl (c_X12_look_146 hX hO hΩ FU (y2) (y3) ((-2 : Int32)) ((-2 : Int32)) ((0 : Int32)) σ)
    · refine g_aload_n hX (dc_X12_look 41 rfl) rfl 0 rfl ?_
      refine g_iload hX (dc_X12_look 42 rfl) 4 rfl ?_
      refine g_iload_n hX (dc_X12_look 43 rfl) rfl 1 rfl ?_
      refine gV_WI (As := [.int y4, .int y1]) (st := []) hX (dc_X12_look 44 rfl) ml_X12_496 (con_X12_couldRule hO hΩ y4 y1 σ) (stS hΩ 0 rfl) rfl rfl ⟨by decide, by decide⟩ ⟨rfl, rfl⟩ ⟨Nat.zero_le _, Nat.zero_le _⟩ (Nat.le_of_ble_eq_true rfl) (fun r39 _ => ?_)
      refine g_if_eq (tgt := 129) hX (dc_X12_look 45 rfl) (by decide) (fun h40 => ?_) (fun h40 => ?_)
      · exact g_sub [0, 1, 2, 3, 4] rfl (c_X12_look_129 hX hO hΩ _ hk64 (y1) (y2) (y3) (y4) r39.2)
      · refine g_iinc (w := (y3 + (1 : Int32))) (L' := [(3, .int (y3 + (1 : Int32))), (0, .ref 0), (1, .int y1), (2, .int y2), (4, .int y4)]) hX (dc_X12_look 46 rfl) 3 rfl rfl (by decide) rfl ?_
        refine g_iconst (w := (0 : Int32)) hX (dc_X12_look 47 rfl) (by decide) ?_
        refine g_istore (L' := [(5, .int (0 : Int32)), (3, .int (y3 + (1 : Int32))), (0, .ref 0), (1, .int y1), (2, .int y2), (4, .int y4)]) hX (dc_X12_look 48 rfl) (by decide) rfl ?_
        exact g_sub [2, 3, 4, 1, 5, 0] rfl (c_X12_look_89 hX hO hΩ _ hk64 FU (y1) (y2) ((y3 + (1 : Int32))) (y4) ((0 : Int32)) r39.2)
def b_X12_look_33   : Nat → Int32 → Int32 → Int32 → MS → Option (Int32 × MS)
  | 0, _, _, _, _ => none
  | n + 1, y1, y2, y3, σ => (if (30 : Int32) ≤ y3 then (f_X12_keepsAll σ).bind (fun r42 => (b_X12_look_64 FU (y1) (y2) ((0 : Int32)) ((-1 : Int32)) r42)) else chk (inb y3 30) (((b_X12_look_33  n) (y1) (y2) ((y3 + (1 : Int32))) (wI σ 44 (ix y3) (0 : Int32)))))
set_option maxHeartbeats 4000000 in
set_option maxRecDepth 20000 in
theorem c_X12_look_33 {X : CX} {Ω : OM} (hX : CF X Ω RX12 cX12_look 9 (some .int) rm_X12_look) (hO : OKO Ω) (hΩ : oSH Ω = SHM)    : ∀ (n : Nat) (y1 : Int32) (y2 : Int32) (y3 : Int32) (σ : MS) , GE X Ω 9 0 0 (emWI) 0 0 33 [(0, .ref 0), (1, .int y1), (2, .int y2), (3, .int y3)] [] σ (b_X12_look_33  n y1 y2 y3 σ)
  | 0, _, _, _, _ => g_none
  | n + 1, y1, y2, y3, σ => by
    have hk33 := c_X12_look_33 hX hO hΩ  n
    unfold b_X12_look_33
    refine g_iload_n hX (dc_X12_look 19 rfl) rfl 3 rfl ?_
    refine g_aload_n hX (dc_X12_look 20 rfl) rfl 0 rfl ?_
    refine g_getF (q := 44) hX (dc_X12_look 21 rfl) fl_X12_145 (by decide) rfl (stS hΩ 0 rfl) rfl ?_
    refine g_alen (w := (30 : Int32)) hX (dc_X12_look 22 rfl) (stS hΩ 44 rfl) (by decide) rfl ?_
    refine g_icmp_ge (tgt := 55) hX (dc_X12_look 23 rfl) (by decide) (fun h41 => ?_) (fun h41 => ?_)
    · refine g_aload_n hX (dc_X12_look 31 rfl) rfl 0 rfl ?_
      refine gV_WV (As := []) (st := []) hX (dc_X12_look 32 rfl) ml_X12_462 (con_X12_keepsAll hO hΩ σ) (stS hΩ 0 rfl) rfl rfl ⟨by decide, by decide⟩ ⟨rfl, rfl⟩ ⟨Nat.zero_le _, Nat.zero_le _⟩ (Nat.le_of_ble_eq_true rfl) (fun r42 _ => ?_)
      refine g_iconst (w := (0 : Int32)) hX (dc_X12_look 33 rfl) (by decide) ?_
      refine g_istore_n (L' := [(3, .int (0 : Int32)), (0, .ref 0), (1, .int y1), (2, .int y2)]) hX (dc_X12_look 34 rfl) rfl (by decide) rfl ?_
      refine g_iconst (w := (-1 : Int32)) hX (dc_X12_look 35 rfl) (by decide) ?_
      refine g_istore (L' := [(4, .int (-1 : Int32)), (3, .int (0 : Int32)), (0, .ref 0), (1, .int y1), (2, .int y2)]) hX (dc_X12_look 36 rfl) (by decide) rfl ?_
      exact g_sub [2, 3, 4, 1, 0] rfl (c_X12_look_64 hX hO hΩ FU (y1) (y2) ((0 : Int32)) ((-1 : Int32)) r42)
    · refine g_aload_n hX (dc_X12_look 24 rfl) rfl 0 rfl ?_
      refine g_getF (q := 44) hX (dc_X12_look 25 rfl) fl_X12_145 (by decide) rfl (stS hΩ 0 rfl) rfl ?_
      refine g_iload_n hX (dc_X12_look 26 rfl) rfl 3 rfl ?_
      refine g_iconst (w := (0 : Int32)) hX (dc_X12_look 27 rfl) (by decide) ?_
      refine g_chk (fun hc43 => ?_)
      refine g_iast hX (dc_X12_look 28 rfl) (stS hΩ 44 rfl) hc43 rfl ?_
      refine g_iinc (w := (y3 + (1 : Int32))) (L' := [(3, .int (y3 + (1 : Int32))), (0, .ref 0), (1, .int y1), (2, .int y2)]) hX (dc_X12_look 29 rfl) 3 rfl rfl (by decide) rfl ?_
      refine g_goto (tgt := 33) hX (dc_X12_look 30 rfl) (by decide) ?_
      exact g_sub [1, 2, 3, 0] rfl (hk33 (y1) (y2) ((y3 + (1 : Int32))) (wI σ 44 (ix y3) (0 : Int32)) )
def b_X12_look_29     (σ : MS) : Option (Int32 × MS) := some ((-1 : Int32), σ)
set_option maxHeartbeats 4000000 in
set_option maxRecDepth 20000 in
theorem c_X12_look_29 {X : CX} {Ω : OM} (hX : CF X Ω RX12 cX12_look 9 (some .int) rm_X12_look) (hO : OKO Ω) (hΩ : oSH Ω = SHM)      (σ : MS)  : GE X Ω 9 0 0 (emWI) 0 0 29 [] [] σ (b_X12_look_29  σ) := by
  unfold b_X12_look_29
  refine g_iconst (w := (-1 : Int32)) hX (dc_X12_look 15 rfl) (by decide) ?_
  exact g_iret hX (dc_X12_look 16 rfl) rfl rfl (Nat.le_refl _) (Nat.le_refl _)
def b_X12_look_0   (x1 : Int32) (x2 : Int32)  (σ : MS) : Option (Int32 × MS) := (if (sI σ 0 28) = 0 then (b_X12_look_29 σ) else (f_X12_in (x1).toInt64 (0 : Int64) (60 : Int64)).bind (fun r45 => (if r45 = 0 then (b_X12_look_29 σ) else (f_X12_in (x2).toInt64 (0 : Int64) (1 : Int64)).bind (fun r47 => (if r47 = 0 then (b_X12_look_29 σ) else (b_X12_look_33 FU (x1) (x2) ((0 : Int32)) σ))))))
set_option maxHeartbeats 4000000 in
set_option maxRecDepth 20000 in
theorem c_X12_look_0 {X : CX} {Ω : OM} (hX : CF X Ω RX12 cX12_look 9 (some .int) rm_X12_look) (hO : OKO Ω) (hΩ : oSH Ω = SHM)    (x1 : Int32) (x2 : Int32)  (σ : MS)  : GE X Ω 9 0 0 (emWI) 0 0 0 [(0, .ref 0), (1, .int x1), (2, .int x2)] [] σ (b_X12_look_0  x1 x2 σ) := by
  unfold b_X12_look_0
  refine g_aload_n hX (dc_X12_look 0 rfl) rfl 0 rfl ?_
  refine g_getI hX (dc_X12_look 1 rfl) fl_X12_341 (by decide) rfl (stS hΩ 0 rfl) ?_
  refine g_if_eq (tgt := 29) hX (dc_X12_look 2 rfl) (by decide) (fun h44 => ?_) (fun h44 => ?_)
  · exact g_sub [] rfl (c_X12_look_29 hX hO hΩ σ)
  · refine g_iload_n hX (dc_X12_look 3 rfl) rfl 1 rfl ?_
    refine g_i2l hX (dc_X12_look 4 rfl) ?_
    refine g_lconst (w := (0 : Int64)) hX (dc_X12_look 5 rfl) (by decide) ?_
    refine g_ldc2 hX (dc_X12_look 6 rfl) wk_X12_494 ?_
    refine gS_PI (As := [.long (x1).toInt64, .long (0 : Int64), .long (60 : Int64)]) (st := []) hX (dc_X12_look 7 rfl) ml_X12_161 (con_X12_in hO hΩ (x1).toInt64 (0 : Int64) (60 : Int64) σ) rfl rfl ⟨by decide, by decide⟩ ⟨rfl, rfl⟩ ⟨Nat.zero_le _, Nat.zero_le _⟩ (Nat.le_of_ble_eq_true rfl) (fun r45 _ => ?_)
    refine g_if_eq (tgt := 29) hX (dc_X12_look 8 rfl) (by decide) (fun h46 => ?_) (fun h46 => ?_)
    · exact g_sub [] rfl (c_X12_look_29 hX hO hΩ σ)
    · refine g_iload_n hX (dc_X12_look 9 rfl) rfl 2 rfl ?_
      refine g_i2l hX (dc_X12_look 10 rfl) ?_
      refine g_lconst (w := (0 : Int64)) hX (dc_X12_look 11 rfl) (by decide) ?_
      refine g_lconst (w := (1 : Int64)) hX (dc_X12_look 12 rfl) (by decide) ?_
      refine gS_PI (As := [.long (x2).toInt64, .long (0 : Int64), .long (1 : Int64)]) (st := []) hX (dc_X12_look 13 rfl) ml_X12_161 (con_X12_in hO hΩ (x2).toInt64 (0 : Int64) (1 : Int64) σ) rfl rfl ⟨by decide, by decide⟩ ⟨rfl, rfl⟩ ⟨Nat.zero_le _, Nat.zero_le _⟩ (Nat.le_of_ble_eq_true rfl) (fun r47 _ => ?_)
      refine g_if_ne (tgt := 31) hX (dc_X12_look 14 rfl) (by decide) (fun h48 => ?_) (fun h48 => ?_)
      · exact g_sub [] rfl (c_X12_look_29 hX hO hΩ σ)
      · refine g_iconst (w := (0 : Int32)) hX (dc_X12_look 17 rfl) (by decide) ?_
        refine g_istore_n (L' := [(3, .int (0 : Int32)), (0, .ref 0), (1, .int x1), (2, .int x2)]) hX (dc_X12_look 18 rfl) rfl (by decide) rfl ?_
        exact g_sub [1, 2, 3, 0] rfl (c_X12_look_33 hX hO hΩ FU (x1) (x2) ((0 : Int32)) σ)
def f_X12_look (x1 : Int32) (x2 : Int32) (σ : MS) : Option (Int32 × MS) := b_X12_look_0  x1 x2 σ
theorem con_X12_look {Ω : OM} (hO : OKO Ω) (hΩ : oSH Ω = SHM) (x1 : Int32) (x2 : Int32) (σ : MS)  : Con Ω yX12_look cX12_look 9 (some .int) rm_X12_look (emWI) [.ref 0, .int x1, .int x2] σ (f_X12_look x1 x2 σ) :=
  con_of hO (by decide +kernel) (Nat.le_of_ble_eq_true rfl) rfl (fun X hX _ => c_X12_look_0 hX hO hΩ   x1 x2 σ )
def it_X12_seed : List (Nat × Instr × Nat × Nat) := [(0, .iload_n 1, 1, 1), (1, .ifCond .ge 5, 3, 4), (4, .iconst (-1), 1, 5), (5, .ireturn, 1, 6), (6, .aload_n 0, 1, 7), (7, .getfield 9, 3, 10), (10, .bipush 8, 2, 12), (12, .iaload, 1, 13), (13, .istore_n 2, 1, 14), (14, .aload_n 0, 1, 15), (15, .getfield 9, 3, 18), (18, .bipush 8, 2, 20), (20, .iload_n 1, 1, 21), (21, .iastore, 1, 22), (22, .iload_n 2, 1, 23), (23, .ireturn, 1, 24)]
theorem id_X12_seed : ∀ q ∈ it_X12_seed, decode cX12_seed q.1 = .ok (q.2.1, q.2.2.1) ∧ q.1 + q.2.2.1 = q.2.2.2 := by decide +kernel
theorem dc_X12_seed {pc : Nat} {i : Instr} {n pc' : Nat} (j : Nat) (h : it_X12_seed[j]? = some (pc, i, n, pc')) : Dc cX12_seed pc i n pc' := dc_of id_X12_seed j h
abbrev rm_X12_seed : Room := { frames := 0, cells := 0, slots := 0, locals := 0 }
def b_X12_seed_0   (x1 : Int32)  (σ : MS) : Option (Int32 × MS) := (if 0 ≤ x1 then some ((sI σ 1 8), (wI σ 1 8 x1)) else some ((-1 : Int32), σ))
set_option maxHeartbeats 4000000 in
set_option maxRecDepth 20000 in
theorem c_X12_seed_0 {X : CX} {Ω : OM} (hX : CF X Ω RX12 cX12_seed 3 (some .int) rm_X12_seed) (hO : OKO Ω) (hΩ : oSH Ω = SHM)    (x1 : Int32)  (σ : MS)  : GE X Ω 3 0 0 (emWI) 0 0 0 [(0, .ref 0), (1, .int x1)] [] σ (b_X12_seed_0  x1 σ) := by
  unfold b_X12_seed_0
  refine g_iload_n hX (dc_X12_seed 0 rfl) rfl 1 rfl ?_
  refine g_if_ge (tgt := 6) hX (dc_X12_seed 1 rfl) (by decide) (fun h2 => ?_) (fun h2 => ?_)
  · refine g_aload_n hX (dc_X12_seed 4 rfl) rfl 0 rfl ?_
    refine g_getF (q := 1) hX (dc_X12_seed 5 rfl) fl_X12_9 (by decide) rfl (stS hΩ 0 rfl) rfl ?_
    refine g_bipush (w := (8 : Int32)) hX (dc_X12_seed 6 rfl) (by decide) ?_
    refine g_iald (j := 8) hX (dc_X12_seed 7 rfl) (stS hΩ 1 rfl) (by decide) (by decide) ?_
    refine g_istore_n (L' := [(2, .int (sI σ 1 8)), (0, .ref 0), (1, .int x1)]) hX (dc_X12_seed 8 rfl) rfl (by decide) rfl ?_
    refine g_aload_n hX (dc_X12_seed 9 rfl) rfl 1 rfl ?_
    refine g_getF (q := 1) hX (dc_X12_seed 10 rfl) fl_X12_9 (by decide) rfl (stS hΩ 0 rfl) rfl ?_
    refine g_bipush (w := (8 : Int32)) hX (dc_X12_seed 11 rfl) (by decide) ?_
    refine g_iload_n hX (dc_X12_seed 12 rfl) rfl 2 rfl ?_
    refine g_iast (j := 8) hX (dc_X12_seed 13 rfl) (stS hΩ 1 rfl) (by decide) (by decide) ?_
    refine g_iload_n hX (dc_X12_seed 14 rfl) rfl 0 rfl ?_
    exact g_iret hX (dc_X12_seed 15 rfl) rfl rfl (Nat.le_refl _) (Nat.le_refl _)
  · refine g_iconst (w := (-1 : Int32)) hX (dc_X12_seed 2 rfl) (by decide) ?_
    exact g_iret hX (dc_X12_seed 3 rfl) rfl rfl (Nat.le_refl _) (Nat.le_refl _)
def f_X12_seed (x1 : Int32) (σ : MS) : Option (Int32 × MS) := b_X12_seed_0  x1 σ
theorem con_X12_seed {Ω : OM} (hO : OKO Ω) (hΩ : oSH Ω = SHM) (x1 : Int32) (σ : MS)  : Con Ω yX12_seed cX12_seed 3 (some .int) rm_X12_seed (emWI) [.ref 0, .int x1] σ (f_X12_seed x1 σ) :=
  con_of hO (by decide +kernel) (Nat.le_of_ble_eq_true rfl) rfl (fun X hX _ => c_X12_seed_0 hX hO hΩ   x1 σ )
def it_X12_draws : List (Nat × Instr × Nat × Nat) := [(0, .aload_n 0, 1, 1), (1, .getfield 9, 3, 4), (4, .bipush 8, 2, 6), (6, .aload_n 0, 1, 7), (7, .getfield 9, 3, 10), (10, .bipush 8, 2, 12), (12, .iaload, 1, 13), (13, .i2l, 1, 14), (14, .ldc2_w 499, 3, 17), (17, .lmul, 1, 18), (18, .ldc2_w 501, 3, 21), (21, .ladd, 1, 22), (22, .ldc2_w 503, 3, 25), (25, .lrem, 1, 26), (26, .l2i, 1, 27), (27, .iastore, 1, 28), (28, .aload_n 0, 1, 29), (29, .getfield 9, 3, 32), (32, .bipush 8, 2, 34), (34, .iaload, 1, 35), (35, .ldc_w 505, 3, 38), (38, .idiv, 1, 39), (39, .iload_n 1, 1, 40), (40, .irem, 1, 41), (41, .ireturn, 1, 42)]
theorem id_X12_draws : ∀ q ∈ it_X12_draws, decode cX12_draws q.1 = .ok (q.2.1, q.2.2.1) ∧ q.1 + q.2.2.1 = q.2.2.2 := by decide +kernel
theorem dc_X12_draws {pc : Nat} {i : Instr} {n pc' : Nat} (j : Nat) (h : it_X12_draws[j]? = some (pc, i, n, pc')) : Dc cX12_draws pc i n pc' := dc_of id_X12_draws j h
abbrev rm_X12_draws : Room := { frames := 0, cells := 0, slots := 0, locals := 0 }
def b_X12_draws_28    (y1 : Int32) (σ : MS) : Option (Int32 × MS) := chk (¬ y1 = 0) (some ((((sI σ 1 8) / (65536 : Int32)) - ((sI σ 1 8) / (65536 : Int32)) / y1 * y1), σ))
set_option maxHeartbeats 4000000 in
set_option maxRecDepth 20000 in
theorem c_X12_draws_28 {X : CX} {Ω : OM} (hX : CF X Ω RX12 cX12_draws 2 (some .int) rm_X12_draws) (hO : OKO Ω) (hΩ : oSH Ω = SHM)     (y1 : Int32) (σ : MS)  : GE X Ω 2 0 0 (emWI) 0 0 28 [(0, .ref 0), (1, .int y1)] [] σ (b_X12_draws_28  y1 σ) := by
  unfold b_X12_draws_28
  refine g_aload_n hX (dc_X12_draws 16 rfl) rfl 0 rfl ?_
  refine g_getF (q := 1) hX (dc_X12_draws 17 rfl) fl_X12_9 (by decide) rfl (stS hΩ 0 rfl) rfl ?_
  refine g_bipush (w := (8 : Int32)) hX (dc_X12_draws 18 rfl) (by decide) ?_
  refine g_iald (j := 8) hX (dc_X12_draws 19 rfl) (stS hΩ 1 rfl) (by decide) (by decide) ?_
  refine g_ldcw hX (dc_X12_draws 20 rfl) wk_X12_505 ?_
  refine g_idiv hX (dc_X12_draws 21 rfl) (by decide) ?_
  refine g_iload_n hX (dc_X12_draws 22 rfl) rfl 1 rfl ?_
  refine g_chk (fun hc2 => ?_)
  refine g_irem hX (dc_X12_draws 23 rfl) hc2 ?_
  exact g_iret hX (dc_X12_draws 24 rfl) rfl rfl (Nat.le_refl _) (Nat.le_refl _)
def b_X12_draws_0   (x1 : Int32)  (σ : MS) : Option (Int32 × MS) := (b_X12_draws_28 (x1) (wI σ 1 8 ((((((sI σ 1 8)).toInt64 * (1103515245 : Int64)) + (12345 : Int64)) - ((((sI σ 1 8)).toInt64 * (1103515245 : Int64)) + (12345 : Int64)) / (2147483648 : Int64) * (2147483648 : Int64))).toInt32))
set_option maxHeartbeats 4000000 in
set_option maxRecDepth 20000 in
theorem c_X12_draws_0 {X : CX} {Ω : OM} (hX : CF X Ω RX12 cX12_draws 2 (some .int) rm_X12_draws) (hO : OKO Ω) (hΩ : oSH Ω = SHM)    (x1 : Int32)  (σ : MS)  : GE X Ω 2 0 0 (emWI) 0 0 0 [(0, .ref 0), (1, .int x1)] [] σ (b_X12_draws_0  x1 σ) := by
  unfold b_X12_draws_0
  refine g_aload_n hX (dc_X12_draws 0 rfl) rfl 0 rfl ?_
  refine g_getF (q := 1) hX (dc_X12_draws 1 rfl) fl_X12_9 (by decide) rfl (stS hΩ 0 rfl) rfl ?_
  refine g_bipush (w := (8 : Int32)) hX (dc_X12_draws 2 rfl) (by decide) ?_
  refine g_aload_n hX (dc_X12_draws 3 rfl) rfl 0 rfl ?_
  refine g_getF (q := 1) hX (dc_X12_draws 4 rfl) fl_X12_9 (by decide) rfl (stS hΩ 0 rfl) rfl ?_
  refine g_bipush (w := (8 : Int32)) hX (dc_X12_draws 5 rfl) (by decide) ?_
  refine g_iald (j := 8) hX (dc_X12_draws 6 rfl) (stS hΩ 1 rfl) (by decide) (by decide) ?_
  refine g_i2l hX (dc_X12_draws 7 rfl) ?_
  refine g_ldc2 hX (dc_X12_draws 8 rfl) wk_X12_499 ?_
  refine g_lmul hX (dc_X12_draws 9 rfl) ?_
  refine g_ldc2 hX (dc_X12_draws 10 rfl) wk_X12_501 ?_
  refine g_ladd hX (dc_X12_draws 11 rfl) ?_
  refine g_ldc2 hX (dc_X12_draws 12 rfl) wk_X12_503 ?_
  refine g_lrem hX (dc_X12_draws 13 rfl) (by decide) ?_
  refine g_l2i hX (dc_X12_draws 14 rfl) ?_
  refine g_iast (j := 8) hX (dc_X12_draws 15 rfl) (stS hΩ 1 rfl) (by decide) (by decide) ?_
  exact g_sub [0, 1] rfl (c_X12_draws_28 hX hO hΩ (x1) (wI σ 1 8 ((((((sI σ 1 8)).toInt64 * (1103515245 : Int64)) + (12345 : Int64)) - ((((sI σ 1 8)).toInt64 * (1103515245 : Int64)) + (12345 : Int64)) / (2147483648 : Int64) * (2147483648 : Int64))).toInt32))
def f_X12_draws (x1 : Int32) (σ : MS) : Option (Int32 × MS) := b_X12_draws_0  x1 σ
theorem con_X12_draws {Ω : OM} (hO : OKO Ω) (hΩ : oSH Ω = SHM) (x1 : Int32) (σ : MS)  : Con Ω yX12_draws cX12_draws 2 (some .int) rm_X12_draws (emWI) [.ref 0, .int x1] σ (f_X12_draws x1 σ) :=
  con_of hO (by decide +kernel) (Nat.le_of_ble_eq_true rfl) rfl (fun X hX _ => c_X12_draws_0 hX hO hΩ   x1 σ )
def it_X12_dropsDrawn : List (Nat × Instr × Nat × Nat) := [(0, .aload_n 0, 1, 1), (1, .aload_n 0, 1, 2), (2, .invokevirtual 506, 3, 5), (5, .invokestatic 387, 3, 8), (8, .invokevirtual 509, 3, 11), (11, .istore_n 1, 1, 12), (12, .iconst 0, 1, 13), (13, .istore_n 2, 1, 14), (14, .iload_n 2, 1, 15), (15, .aload_n 0, 1, 16), (16, .getfield 9, 3, 19), (19, .iconst 4, 1, 20), (20, .iaload, 1, 21), (21, .if_icmp .ge 50, 3, 24), (24, .aload_n 0, 1, 25), (25, .getfield 34, 3, 28), (28, .iload_n 2, 1, 29), (29, .iaload, 1, 30), (30, .iconst (-1), 1, 31), (31, .if_icmp .eq 7, 3, 34), (34, .iconst 1, 1, 35), (35, .goto 4, 3, 38), (38, .iconst 0, 1, 39), (39, .istore_n 3, 1, 40), (40, .iload_n 3, 1, 41), (41, .ifCond .eq 12, 3, 44), (44, .iload_n 1, 1, 45), (45, .ifCond .ne 8, 3, 48), (48, .aload_n 0, 1, 49), (49, .iload_n 2, 1, 50), (50, .invokevirtual 419, 3, 53), (53, .iload_n 1, 1, 54), (54, .iload_n 3, 1, 55), (55, .ifCond .eq 7, 3, 58), (58, .iconst 1, 1, 59), (59, .goto 4, 3, 62), (62, .iconst 0, 1, 63), (63, .isub, 1, 64), (64, .istore_n 1, 1, 65), (65, .iinc 2 1, 3, 68), (68, .goto (-54), 3, 71), (71, .return_, 1, 72)]
theorem id_X12_dropsDrawn : ∀ q ∈ it_X12_dropsDrawn, decode cX12_dropsDrawn q.1 = .ok (q.2.1, q.2.2.1) ∧ q.1 + q.2.2.1 = q.2.2.2 := by decide +kernel
theorem dc_X12_dropsDrawn {pc : Nat} {i : Instr} {n pc' : Nat} (j : Nat) (h : it_X12_dropsDrawn[j]? = some (pc, i, n, pc')) : Dc cX12_dropsDrawn pc i n pc' := dc_of id_X12_dropsDrawn j h
abbrev rm_X12_dropsDrawn : Room := { frames := 1, cells := 0, slots := 0, locals := 22 }
def b_X12_dropsDrawn_63  (k14 : Int32 → Int32 → MS → Option (MS))  (y2 : Int32) (s0 : Int32) (s1 : Int32) (σ : MS) : Option (MS) := (k14 ((s1 - s0)) ((y2 + (1 : Int32))) σ)
set_option maxHeartbeats 4000000 in
set_option maxRecDepth 20000 in
theorem c_X12_dropsDrawn_63 {X : CX} {Ω : OM} (hX : CF X Ω RX12 cX12_dropsDrawn 4 none rm_X12_dropsDrawn) (hO : OKO Ω) (hΩ : oSH Ω = SHM)   (k14 : Int32 → Int32 → MS → Option (MS)) (hk14 : ∀ (y1 : Int32) (y2 : Int32) (σ : MS) , GE X Ω 4 0 0 (emWV) 0 0 14 [(0, .ref 0), (1, .int y1), (2, .int y2)] [] σ (k14 y1 y2 σ))  (y2 : Int32) (s0 : Int32) (s1 : Int32) (σ : MS)  : GE X Ω 4 0 0 (emWV) 0 0 63 [(0, .ref 0), (2, .int y2)] [.int s0, .int s1] σ (b_X12_dropsDrawn_63  k14 y2 s0 s1 σ) := by
  unfold b_X12_dropsDrawn_63
  refine g_isub hX (dc_X12_dropsDrawn 37 rfl) ?_
  refine g_istore_n (L' := [(1, .int (s1 - s0)), (0, .ref 0), (2, .int y2)]) hX (dc_X12_dropsDrawn 38 rfl) rfl (by decide) rfl ?_
  refine g_iinc (w := (y2 + (1 : Int32))) (L' := [(2, .int (y2 + (1 : Int32))), (1, .int (s1 - s0)), (0, .ref 0)]) hX (dc_X12_dropsDrawn 39 rfl) 2 rfl rfl (by decide) rfl ?_
  refine g_goto (tgt := 14) hX (dc_X12_dropsDrawn 40 rfl) (by decide) ?_
  exact g_sub [2, 1, 0] rfl (hk14 ((s1 - s0)) ((y2 + (1 : Int32))) σ )
def b_X12_dropsDrawn_53  (k14 : Int32 → Int32 → MS → Option (MS))  (y1 : Int32) (y2 : Int32) (y3 : Int32) (σ : MS) : Option (MS) := (if y3 = 0 then (b_X12_dropsDrawn_63 k14 (y2) ((0 : Int32)) (y1) σ) else (b_X12_dropsDrawn_63 k14 (y2) ((1 : Int32)) (y1) σ))
set_option maxHeartbeats 4000000 in
set_option maxRecDepth 20000 in
theorem c_X12_dropsDrawn_53 {X : CX} {Ω : OM} (hX : CF X Ω RX12 cX12_dropsDrawn 4 none rm_X12_dropsDrawn) (hO : OKO Ω) (hΩ : oSH Ω = SHM)   (k14 : Int32 → Int32 → MS → Option (MS)) (hk14 : ∀ (y1 : Int32) (y2 : Int32) (σ : MS) , GE X Ω 4 0 0 (emWV) 0 0 14 [(0, .ref 0), (1, .int y1), (2, .int y2)] [] σ (k14 y1 y2 σ))  (y1 : Int32) (y2 : Int32) (y3 : Int32) (σ : MS)  : GE X Ω 4 0 0 (emWV) 0 0 53 [(0, .ref 0), (1, .int y1), (2, .int y2), (3, .int y3)] [] σ (b_X12_dropsDrawn_53  k14 y1 y2 y3 σ) := by
  unfold b_X12_dropsDrawn_53
  refine g_iload_n hX (dc_X12_dropsDrawn 31 rfl) rfl 1 rfl ?_
  refine g_iload_n hX (dc_X12_dropsDrawn 32 rfl) rfl 3 rfl ?_
  refine g_if_eq (tgt := 62) hX (dc_X12_dropsDrawn 33 rfl) (by decide) (fun h11 => ?_) (fun h11 => ?_)
  · refine g_iconst (w := (0 : Int32)) hX (dc_X12_dropsDrawn 36 rfl) (by decide) ?_
    exact g_sub [0, 2] rfl (c_X12_dropsDrawn_63 hX hO hΩ _ hk14 (y2) ((0 : Int32)) (y1) σ)
  · refine g_iconst (w := (1 : Int32)) hX (dc_X12_dropsDrawn 34 rfl) (by decide) ?_
    refine g_goto (tgt := 63) hX (dc_X12_dropsDrawn 35 rfl) (by decide) ?_
    exact g_sub [0, 2] rfl (c_X12_dropsDrawn_63 hX hO hΩ _ hk14 (y2) ((1 : Int32)) (y1) σ)
def b_X12_dropsDrawn_39  (k14 : Int32 → Int32 → MS → Option (MS))  (y1 : Int32) (y2 : Int32) (s0 : Int32) (σ : MS) : Option (MS) := (if s0 = 0 then (b_X12_dropsDrawn_53 k14 (y1) (y2) (s0) σ) else (if y1 = 0 then (f_X12_drops y2 σ).bind (fun r14 => (b_X12_dropsDrawn_53 k14 (y1) (y2) (s0) r14)) else (b_X12_dropsDrawn_53 k14 (y1) (y2) (s0) σ)))
set_option maxHeartbeats 4000000 in
set_option maxRecDepth 20000 in
theorem c_X12_dropsDrawn_39 {X : CX} {Ω : OM} (hX : CF X Ω RX12 cX12_dropsDrawn 4 none rm_X12_dropsDrawn) (hO : OKO Ω) (hΩ : oSH Ω = SHM)   (k14 : Int32 → Int32 → MS → Option (MS)) (hk14 : ∀ (y1 : Int32) (y2 : Int32) (σ : MS) , GE X Ω 4 0 0 (emWV) 0 0 14 [(0, .ref 0), (1, .int y1), (2, .int y2)] [] σ (k14 y1 y2 σ))  (y1 : Int32) (y2 : Int32) (s0 : Int32) (σ : MS)  : GE X Ω 4 0 0 (emWV) 0 0 39 [(0, .ref 0), (1, .int y1), (2, .int y2)] [.int s0] σ (b_X12_dropsDrawn_39  k14 y1 y2 s0 σ) := by
  unfold b_X12_dropsDrawn_39
  refine g_istore_n (L' := [(3, .int s0), (0, .ref 0), (1, .int y1), (2, .int y2)]) hX (dc_X12_dropsDrawn 23 rfl) rfl (by decide) rfl ?_
  refine g_iload_n hX (dc_X12_dropsDrawn 24 rfl) rfl 0 rfl ?_
  refine g_if_eq (tgt := 53) hX (dc_X12_dropsDrawn 25 rfl) (by decide) (fun h12 => ?_) (fun h12 => ?_)
  · exact g_sub [1, 2, 3, 0] rfl (c_X12_dropsDrawn_53 hX hO hΩ _ hk14 (y1) (y2) (s0) σ)
  · refine g_iload_n hX (dc_X12_dropsDrawn 26 rfl) rfl 2 rfl ?_
    refine g_if_ne (tgt := 53) hX (dc_X12_dropsDrawn 27 rfl) (by decide) (fun h13 => ?_) (fun h13 => ?_)
    · refine g_aload_n hX (dc_X12_dropsDrawn 28 rfl) rfl 1 rfl ?_
      refine g_iload_n hX (dc_X12_dropsDrawn 29 rfl) rfl 3 rfl ?_
      refine gV_WV (As := [.int y2]) (st := []) hX (dc_X12_dropsDrawn 30 rfl) ml_X12_419 (con_X12_drops hO hΩ y2 σ) (stS hΩ 0 rfl) rfl rfl ⟨by decide, by decide⟩ ⟨rfl, rfl⟩ ⟨Nat.zero_le _, Nat.zero_le _⟩ (Nat.le_of_ble_eq_true rfl) (fun r14 _ => ?_)
      exact g_sub [1, 2, 3, 0] rfl (c_X12_dropsDrawn_53 hX hO hΩ _ hk14 (y1) (y2) (s0) r14)
    · exact g_sub [1, 2, 3, 0] rfl (c_X12_dropsDrawn_53 hX hO hΩ _ hk14 (y1) (y2) (s0) σ)
def b_X12_dropsDrawn_14   : Nat → Int32 → Int32 → MS → Option (MS)
  | 0, _, _, _ => none
  | n + 1, y1, y2, σ => (if (sI σ 1 4) ≤ y2 then some (σ) else chk (inb y2 6) ((if (sI σ 9 (ix y2)) = (-1 : Int32) then (b_X12_dropsDrawn_39 (b_X12_dropsDrawn_14  n) (y1) (y2) ((0 : Int32)) σ) else (b_X12_dropsDrawn_39 (b_X12_dropsDrawn_14  n) (y1) (y2) ((1 : Int32)) σ))))
set_option maxHeartbeats 4000000 in
set_option maxRecDepth 20000 in
theorem c_X12_dropsDrawn_14 {X : CX} {Ω : OM} (hX : CF X Ω RX12 cX12_dropsDrawn 4 none rm_X12_dropsDrawn) (hO : OKO Ω) (hΩ : oSH Ω = SHM)    : ∀ (n : Nat) (y1 : Int32) (y2 : Int32) (σ : MS) , GE X Ω 4 0 0 (emWV) 0 0 14 [(0, .ref 0), (1, .int y1), (2, .int y2)] [] σ (b_X12_dropsDrawn_14  n y1 y2 σ)
  | 0, _, _, _ => g_none
  | n + 1, y1, y2, σ => by
    have hk14 := c_X12_dropsDrawn_14 hX hO hΩ  n
    unfold b_X12_dropsDrawn_14
    refine g_iload_n hX (dc_X12_dropsDrawn 8 rfl) rfl 2 rfl ?_
    refine g_aload_n hX (dc_X12_dropsDrawn 9 rfl) rfl 0 rfl ?_
    refine g_getF (q := 1) hX (dc_X12_dropsDrawn 10 rfl) fl_X12_9 (by decide) rfl (stS hΩ 0 rfl) rfl ?_
    refine g_iconst (w := (4 : Int32)) hX (dc_X12_dropsDrawn 11 rfl) (by decide) ?_
    refine g_iald (j := 4) hX (dc_X12_dropsDrawn 12 rfl) (stS hΩ 1 rfl) (by decide) (by decide) ?_
    refine g_icmp_ge (tgt := 71) hX (dc_X12_dropsDrawn 13 rfl) (by decide) (fun h15 => ?_) (fun h15 => ?_)
    · exact g_vret hX (dc_X12_dropsDrawn 41 rfl) rfl (Nat.le_refl _) (Nat.le_refl _)
    · refine g_aload_n hX (dc_X12_dropsDrawn 14 rfl) rfl 0 rfl ?_
      refine g_getF (q := 9) hX (dc_X12_dropsDrawn 15 rfl) fl_X12_34 (by decide) rfl (stS hΩ 0 rfl) rfl ?_
      refine g_iload_n hX (dc_X12_dropsDrawn 16 rfl) rfl 2 rfl ?_
      refine g_chk (fun hc16 => ?_)
      refine g_iald hX (dc_X12_dropsDrawn 17 rfl) (stS hΩ 9 rfl) hc16 rfl ?_
      refine g_iconst (w := (-1 : Int32)) hX (dc_X12_dropsDrawn 18 rfl) (by decide) ?_
      refine g_icmp_eq (tgt := 38) hX (dc_X12_dropsDrawn 19 rfl) (by decide) (fun h17 => ?_) (fun h17 => ?_)
      · refine g_iconst (w := (0 : Int32)) hX (dc_X12_dropsDrawn 22 rfl) (by decide) ?_
        exact g_sub [0, 1, 2] rfl (c_X12_dropsDrawn_39 hX hO hΩ _ hk14 (y1) (y2) ((0 : Int32)) σ)
      · refine g_iconst (w := (1 : Int32)) hX (dc_X12_dropsDrawn 20 rfl) (by decide) ?_
        refine g_goto (tgt := 39) hX (dc_X12_dropsDrawn 21 rfl) (by decide) ?_
        exact g_sub [0, 1, 2] rfl (c_X12_dropsDrawn_39 hX hO hΩ _ hk14 (y1) (y2) ((1 : Int32)) σ)
def b_X12_dropsDrawn_0     (σ : MS) : Option (MS) := (f_X12_going σ).bind (fun r18 => (f_X12_bits r18).bind (fun r19 => (f_X12_draws r19 σ).bind (fun r20 => (b_X12_dropsDrawn_14 FU (r20.1) ((0 : Int32)) r20.2))))
set_option maxHeartbeats 4000000 in
set_option maxRecDepth 20000 in
theorem c_X12_dropsDrawn_0 {X : CX} {Ω : OM} (hX : CF X Ω RX12 cX12_dropsDrawn 4 none rm_X12_dropsDrawn) (hO : OKO Ω) (hΩ : oSH Ω = SHM)      (σ : MS)  : GE X Ω 4 0 0 (emWV) 0 0 0 [(0, .ref 0)] [] σ (b_X12_dropsDrawn_0  σ) := by
  unfold b_X12_dropsDrawn_0
  refine g_aload_n hX (dc_X12_dropsDrawn 0 rfl) rfl 0 rfl ?_
  refine g_aload_n hX (dc_X12_dropsDrawn 1 rfl) rfl 0 rfl ?_
  refine gV_PI (As := []) (st := [.ref 0]) hX (dc_X12_dropsDrawn 2 rfl) ml_X12_506 (con_X12_going hO hΩ σ) (stS hΩ 0 rfl) rfl rfl ⟨by decide, by decide⟩ ⟨rfl, rfl⟩ ⟨Nat.zero_le _, Nat.zero_le _⟩ (Nat.le_of_ble_eq_true rfl) (fun r18 _ => ?_)
  refine gS_PI (As := [.int r18]) (st := [.ref 0]) hX (dc_X12_dropsDrawn 3 rfl) ml_X12_387 (con_X12_bits hO hΩ r18 σ) rfl rfl ⟨by decide, by decide⟩ ⟨rfl, rfl⟩ ⟨Nat.zero_le _, Nat.zero_le _⟩ (Nat.le_of_ble_eq_true rfl) (fun r19 _ => ?_)
  refine gV_WI (As := [.int r19]) (st := []) hX (dc_X12_dropsDrawn 4 rfl) ml_X12_509 (con_X12_draws hO hΩ r19 σ) (stS hΩ 0 rfl) rfl rfl ⟨by decide, by decide⟩ ⟨rfl, rfl⟩ ⟨Nat.zero_le _, Nat.zero_le _⟩ (Nat.le_of_ble_eq_true rfl) (fun r20 _ => ?_)
  refine g_istore_n (L' := [(1, .int r20.1), (0, .ref 0)]) hX (dc_X12_dropsDrawn 5 rfl) rfl (by decide) rfl ?_
  refine g_iconst (w := (0 : Int32)) hX (dc_X12_dropsDrawn 6 rfl) (by decide) ?_
  refine g_istore_n (L' := [(2, .int (0 : Int32)), (1, .int r20.1), (0, .ref 0)]) hX (dc_X12_dropsDrawn 7 rfl) rfl (by decide) rfl ?_
  exact g_sub [2, 1, 0] rfl (c_X12_dropsDrawn_14 hX hO hΩ FU (r20.1) ((0 : Int32)) r20.2)
def f_X12_dropsDrawn  (σ : MS) : Option (MS) := b_X12_dropsDrawn_0   σ
theorem con_X12_dropsDrawn {Ω : OM} (hO : OKO Ω) (hΩ : oSH Ω = SHM)  (σ : MS)  : Con Ω yX12_dropsDrawn cX12_dropsDrawn 4 none rm_X12_dropsDrawn (emWV) [.ref 0] σ (f_X12_dropsDrawn  σ) :=
  con_of hO (by decide +kernel) (Nat.le_of_ble_eq_true rfl) rfl (fun X hX _ => c_X12_dropsDrawn_0 hX hO hΩ    σ )
def it_X12_nights : List (Nat × Instr × Nat × Nat) := [(0, .aload_n 0, 1, 1), (1, .getfield 341, 3, 4), (4, .ifCond .eq 50, 3, 7), (7, .iload_n 1, 1, 8), (8, .i2l, 1, 9), (9, .lconst 1, 1, 10), (10, .ldc2_w 512, 3, 13), (13, .invokestatic 161, 3, 16), (16, .ifCond .eq 38, 3, 19), (19, .iload_n 2, 1, 20), (20, .i2l, 1, 21), (21, .lconst 1, 1, 22), (22, .ldc2_w 494, 3, 25), (25, .invokestatic 161, 3, 28), (28, .ifCond .eq 26, 3, 31), (31, .iload_n 3, 1, 32), (32, .i2l, 1, 33), (33, .lconst 0, 1, 34), (34, .ldc2_w 460, 3, 37), (37, .invokestatic 161, 3, 40), (40, .ifCond .eq 14, 3, 43), (43, .iload 4, 2, 45), (45, .i2l, 1, 46), (46, .lconst 0, 1, 47), (47, .lconst 1, 1, 48), (48, .invokestatic 161, 3, 51), (51, .ifCond .ne 5, 3, 54), (54, .iconst (-1), 1, 55), (55, .ireturn, 1, 56), (56, .aload_n 0, 1, 57), (57, .getfield 9, 3, 60), (60, .bipush 8, 2, 62), (62, .iaload, 1, 63), (63, .istore 5, 2, 65), (65, .iload 5, 2, 67), (67, .istore 6, 2, 69), (69, .iconst 0, 1, 70), (70, .istore 7, 2, 72), (72, .iconst 0, 1, 73), (73, .istore 8, 2, 75), (75, .aload_n 0, 1, 76), (76, .invokevirtual 462, 3, 79), (79, .iconst 0, 1, 80), (80, .istore 9, 2, 82), (82, .iload 9, 2, 84), (84, .iload_n 1, 1, 85), (85, .if_icmp .ge 91, 3, 88), (88, .aload_n 0, 1, 89), (89, .getfield 9, 3, 92), (92, .bipush 8, 2, 94), (94, .iload 6, 2, 96), (96, .iastore, 1, 97), (97, .iconst 0, 1, 98), (98, .istore 10, 2, 100), (100, .iload 10, 2, 102), (102, .iload_n 2, 1, 103), (103, .if_icmp .ge 42, 3, 106), (106, .aload_n 0, 1, 107), (107, .bipush 100, 2, 109), (109, .invokevirtual 509, 3, 112), (112, .iload_n 3, 1, 113), (113, .if_icmp .ge 17, 3, 116), (116, .aload_n 0, 1, 117), (117, .invokevirtual 506, 3, 120), (120, .ifCond .eq 10, 3, 123), (123, .aload_n 0, 1, 124), (124, .invokevirtual 514, 3, 127), (127, .iinc 7 1, 3, 130), (130, .iload 7, 2, 132), (132, .aload_n 0, 1, 133), (133, .invokevirtual 428, 3, 136), (136, .iadd, 1, 137), (137, .istore 7, 2, 139), (139, .iinc 10 1, 3, 142), (142, .goto (-42), 3, 145), (145, .iload 8, 2, 147), (147, .aload_n 0, 1, 148), (148, .invokevirtual 506, 3, 151), (151, .invokestatic 387, 3, 154), (154, .iadd, 1, 155), (155, .istore 8, 2, 157), (157, .aload_n 0, 1, 158), (158, .getfield 9, 3, 161), (161, .bipush 8, 2, 163), (163, .iaload, 1, 164), (164, .istore 6, 2, 166), (166, .aload_n 0, 1, 167), (167, .invokevirtual 468, 3, 170), (170, .iinc 9 1, 3, 173), (173, .goto (-91), 3, 176), (176, .aload_n 0, 1, 177), (177, .getfield 9, 3, 180), (180, .bipush 8, 2, 182), (182, .iload 5, 2, 184), (184, .iastore, 1, 185), (185, .iload 4, 2, 187), (187, .ifCond .ne 8, 3, 190), (190, .iload 7, 2, 192), (192, .goto 5, 3, 195), (195, .iload 8, 2, 197), (197, .ireturn, 1, 198)]
theorem id_X12_nights : ∀ q ∈ it_X12_nights, decode cX12_nights q.1 = .ok (q.2.1, q.2.2.1) ∧ q.1 + q.2.2.1 = q.2.2.2 := by decide +kernel
theorem dc_X12_nights {pc : Nat} {i : Instr} {n pc' : Nat} (j : Nat) (h : it_X12_nights[j]? = some (pc, i, n, pc')) : Dc cX12_nights pc i n pc' := dc_of id_X12_nights j h
abbrev rm_X12_nights : Room := { frames := 7, cells := 0, slots := 0, locals := 165 }
def b_X12_nights_197    (s0 : Int32) (σ : MS) : Option (Int32 × MS) := some (s0, σ)
set_option maxHeartbeats 4000000 in
set_option maxRecDepth 20000 in
theorem c_X12_nights_197 {X : CX} {Ω : OM} (hX : CF X Ω RX12 cX12_nights 11 (some .int) rm_X12_nights) (hO : OKO Ω) (hΩ : oSH Ω = SHM)     (s0 : Int32) (σ : MS)  : GE X Ω 11 0 0 (emWI) 0 0 197 [] [.int s0] σ (b_X12_nights_197  s0 σ) := by
  unfold b_X12_nights_197
  exact g_iret hX (dc_X12_nights 100 rfl) rfl rfl (Nat.le_refl _) (Nat.le_refl _)
def b_X12_nights_130  (k82 : Int32 → Int32 → Int32 → Int32 → Int32 → Int32 → Int32 → Int32 → Int32 → MS → Option (Int32 × MS)) (k100 : Int32 → Int32 → Int32 → Int32 → Int32 → Int32 → Int32 → Int32 → Int32 → MS → Option (Int32 × MS))  (y1 : Int32) (y2 : Int32) (y3 : Int32) (y4 : Int32) (y5 : Int32) (y7 : Int32) (y8 : Int32) (y9 : Int32) (y10 : Int32) (σ : MS) : Option (Int32 × MS) := (f_X12_goes σ).bind (fun r23 => (k100 (y1) (y2) (y3) (y4) (y5) ((y7 + r23.1)) (y8) (y9) ((y10 + (1 : Int32))) r23.2))
set_option maxHeartbeats 4000000 in
set_option maxRecDepth 20000 in
theorem c_X12_nights_130 {X : CX} {Ω : OM} (hX : CF X Ω RX12 cX12_nights 11 (some .int) rm_X12_nights) (hO : OKO Ω) (hΩ : oSH Ω = SHM)   (k82 : Int32 → Int32 → Int32 → Int32 → Int32 → Int32 → Int32 → Int32 → Int32 → MS → Option (Int32 × MS)) (hk82 : ∀ (y1 : Int32) (y2 : Int32) (y3 : Int32) (y4 : Int32) (y5 : Int32) (y6 : Int32) (y7 : Int32) (y8 : Int32) (y9 : Int32) (σ : MS) , GE X Ω 11 0 0 (emWI) 0 0 82 [(0, .ref 0), (1, .int y1), (2, .int y2), (3, .int y3), (4, .int y4), (5, .int y5), (6, .int y6), (7, .int y7), (8, .int y8), (9, .int y9)] [] σ (k82 y1 y2 y3 y4 y5 y6 y7 y8 y9 σ)) (k100 : Int32 → Int32 → Int32 → Int32 → Int32 → Int32 → Int32 → Int32 → Int32 → MS → Option (Int32 × MS)) (hk100 : ∀ (y1 : Int32) (y2 : Int32) (y3 : Int32) (y4 : Int32) (y5 : Int32) (y7 : Int32) (y8 : Int32) (y9 : Int32) (y10 : Int32) (σ : MS) , GE X Ω 11 0 0 (emWI) 0 0 100 [(0, .ref 0), (1, .int y1), (2, .int y2), (3, .int y3), (4, .int y4), (5, .int y5), (7, .int y7), (8, .int y8), (9, .int y9), (10, .int y10)] [] σ (k100 y1 y2 y3 y4 y5 y7 y8 y9 y10 σ))  (y1 : Int32) (y2 : Int32) (y3 : Int32) (y4 : Int32) (y5 : Int32) (y7 : Int32) (y8 : Int32) (y9 : Int32) (y10 : Int32) (σ : MS)  : GE X Ω 11 0 0 (emWI) 0 0 130 [(0, .ref 0), (1, .int y1), (2, .int y2), (3, .int y3), (4, .int y4), (5, .int y5), (7, .int y7), (8, .int y8), (9, .int y9), (10, .int y10)] [] σ (b_X12_nights_130  k82 k100 y1 y2 y3 y4 y5 y7 y8 y9 y10 σ) := by
  unfold b_X12_nights_130
  refine g_iload hX (dc_X12_nights 68 rfl) 6 rfl ?_
  refine g_aload_n hX (dc_X12_nights 69 rfl) rfl 0 rfl ?_
  refine gV_WI (As := []) (st := [.int y7]) hX (dc_X12_nights 70 rfl) ml_X12_428 (con_X12_goes hO hΩ σ) (stS hΩ 0 rfl) rfl rfl ⟨by decide, by decide⟩ ⟨rfl, rfl⟩ ⟨Nat.zero_le _, Nat.zero_le _⟩ (Nat.le_of_ble_eq_true rfl) (fun r23 _ => ?_)
  refine g_iadd hX (dc_X12_nights 71 rfl) ?_
  refine g_istore (L' := [(7, .int (y7 + r23.1)), (0, .ref 0), (1, .int y1), (2, .int y2), (3, .int y3), (4, .int y4), (5, .int y5), (8, .int y8), (9, .int y9), (10, .int y10)]) hX (dc_X12_nights 72 rfl) (by decide) rfl ?_
  refine g_iinc (w := (y10 + (1 : Int32))) (L' := [(10, .int (y10 + (1 : Int32))), (7, .int (y7 + r23.1)), (0, .ref 0), (1, .int y1), (2, .int y2), (3, .int y3), (4, .int y4), (5, .int y5), (8, .int y8), (9, .int y9)]) hX (dc_X12_nights 73 rfl) 9 rfl rfl (by decide) rfl ?_
  refine g_goto (tgt := 100) hX (dc_X12_nights 74 rfl) (by decide) ?_
  exact g_sub [2, 3, 4, 5, 6, 7, 1, 8, 9, 0] rfl (hk100 (y1) (y2) (y3) (y4) (y5) ((y7 + r23.1)) (y8) (y9) ((y10 + (1 : Int32))) r23.2 )
def b_X12_nights_100  (k82 : Int32 → Int32 → Int32 → Int32 → Int32 → Int32 → Int32 → Int32 → Int32 → MS → Option (Int32 × MS)) : Nat → Int32 → Int32 → Int32 → Int32 → Int32 → Int32 → Int32 → Int32 → Int32 → MS → Option (Int32 × MS)
  | 0, _, _, _, _, _, _, _, _, _, _ => none
  | n + 1, y1, y2, y3, y4, y5, y7, y8, y9, y10, σ => (if y2 ≤ y10 then (f_X12_going σ).bind (fun r25 => (f_X12_bits r25).bind (fun r26 => (f_X12_laysBack σ).bind (fun r27 => (k82 (y1) (y2) (y3) (y4) (y5) ((sI σ 1 8)) (y7) ((y8 + r26)) ((y9 + (1 : Int32))) r27)))) else (f_X12_draws (100 : Int32) σ).bind (fun r28 => (if y3 ≤ r28.1 then (b_X12_nights_130 k82 (b_X12_nights_100  k82 n) (y1) (y2) (y3) (y4) (y5) (y7) (y8) (y9) (y10) r28.2) else (f_X12_going r28.2).bind (fun r30 => (if r30 = 0 then (b_X12_nights_130 k82 (b_X12_nights_100  k82 n) (y1) (y2) (y3) (y4) (y5) (y7) (y8) (y9) (y10) r28.2) else (f_X12_dropsDrawn r28.2).bind (fun r32 => (b_X12_nights_130 k82 (b_X12_nights_100  k82 n) (y1) (y2) (y3) (y4) (y5) ((y7 + (1 : Int32))) (y8) (y9) (y10) r32)))))))
set_option maxHeartbeats 4000000 in
set_option maxRecDepth 20000 in
theorem c_X12_nights_100 {X : CX} {Ω : OM} (hX : CF X Ω RX12 cX12_nights 11 (some .int) rm_X12_nights) (hO : OKO Ω) (hΩ : oSH Ω = SHM)   (k82 : Int32 → Int32 → Int32 → Int32 → Int32 → Int32 → Int32 → Int32 → Int32 → MS → Option (Int32 × MS)) (hk82 : ∀ (y1 : Int32) (y2 : Int32) (y3 : Int32) (y4 : Int32) (y5 : Int32) (y6 : Int32) (y7 : Int32) (y8 : Int32) (y9 : Int32) (σ : MS) , GE X Ω 11 0 0 (emWI) 0 0 82 [(0, .ref 0), (1, .int y1), (2, .int y2), (3, .int y3), (4, .int y4), (5, .int y5), (6, .int y6), (7, .int y7), (8, .int y8), (9, .int y9)] [] σ (k82 y1 y2 y3 y4 y5 y6 y7 y8 y9 σ)) : ∀ (n : Nat) (y1 : Int32) (y2 : Int32) (y3 : Int32) (y4 : Int32) (y5 : Int32) (y7 : Int32) (y8 : Int32) (y9 : Int32) (y10 : Int32) (σ : MS) , GE X Ω 11 0 0 (emWI) 0 0 100 [(0, .ref 0), (1, .int y1), (2, .int y2), (3, .int y3), (4, .int y4), (5, .int y5), (7, .int y7), (8, .int y8), (9, .int y9), (10, .int y10)] [] σ (b_X12_nights_100  k82 n y1 y2 y3 y4 y5 y7 y8 y9 y10 σ)
  | 0, _, _, _, _, _, _, _, _, _, _ => g_none
  | n + 1, y1, y2, y3, y4, y5, y7, y8, y9, y10, σ => by
    have hk100 := c_X12_nights_100 hX hO hΩ  k82 hk82 n
    unfold b_X12_nights_100
    refine g_iload hX (dc_X12_nights 54 rfl) 9 rfl ?_
    refine g_iload_n hX (dc_X12_nights 55 rfl) rfl 2 rfl ?_
    refine g_icmp_ge (tgt := 145) hX (dc_X12_nights 56 rfl) (by decide) (fun h24 => ?_) (fun h24 => ?_)
    · refine g_iload hX (dc_X12_nights 75 rfl) 7 rfl ?_
      refine g_aload_n hX (dc_X12_nights 76 rfl) rfl 0 rfl ?_
      refine gV_PI (As := []) (st := [.int y8]) hX (dc_X12_nights 77 rfl) ml_X12_506 (con_X12_going hO hΩ σ) (stS hΩ 0 rfl) rfl rfl ⟨by decide, by decide⟩ ⟨rfl, rfl⟩ ⟨Nat.zero_le _, Nat.zero_le _⟩ (Nat.le_of_ble_eq_true rfl) (fun r25 _ => ?_)
      refine gS_PI (As := [.int r25]) (st := [.int y8]) hX (dc_X12_nights 78 rfl) ml_X12_387 (con_X12_bits hO hΩ r25 σ) rfl rfl ⟨by decide, by decide⟩ ⟨rfl, rfl⟩ ⟨Nat.zero_le _, Nat.zero_le _⟩ (Nat.le_of_ble_eq_true rfl) (fun r26 _ => ?_)
      refine g_iadd hX (dc_X12_nights 79 rfl) ?_
      refine g_istore (L' := [(8, .int (y8 + r26)), (0, .ref 0), (1, .int y1), (2, .int y2), (3, .int y3), (4, .int y4), (5, .int y5), (7, .int y7), (9, .int y9), (10, .int y10)]) hX (dc_X12_nights 80 rfl) (by decide) rfl ?_
      refine g_aload_n hX (dc_X12_nights 81 rfl) rfl 1 rfl ?_
      refine g_getF (q := 1) hX (dc_X12_nights 82 rfl) fl_X12_9 (by decide) rfl (stS hΩ 0 rfl) rfl ?_
      refine g_bipush (w := (8 : Int32)) hX (dc_X12_nights 83 rfl) (by decide) ?_
      refine g_iald (j := 8) hX (dc_X12_nights 84 rfl) (stS hΩ 1 rfl) (by decide) (by decide) ?_
      refine g_istore (L' := [(6, .int (sI σ 1 8)), (8, .int (y8 + r26)), (0, .ref 0), (1, .int y1), (2, .int y2), (3, .int y3), (4, .int y4), (5, .int y5), (7, .int y7), (9, .int y9), (10, .int y10)]) hX (dc_X12_nights 85 rfl) (by decide) rfl ?_
      refine g_aload_n hX (dc_X12_nights 86 rfl) rfl 2 rfl ?_
      refine gV_WV (As := []) (st := []) hX (dc_X12_nights 87 rfl) ml_X12_468 (con_X12_laysBack hO hΩ σ) (stS hΩ 0 rfl) rfl rfl ⟨by decide, by decide⟩ ⟨rfl, rfl⟩ ⟨Nat.zero_le _, Nat.zero_le _⟩ (Nat.le_of_ble_eq_true rfl) (fun r27 _ => ?_)
      refine g_iinc (w := (y9 + (1 : Int32))) (L' := [(9, .int (y9 + (1 : Int32))), (6, .int (sI σ 1 8)), (8, .int (y8 + r26)), (0, .ref 0), (1, .int y1), (2, .int y2), (3, .int y3), (4, .int y4), (5, .int y5), (7, .int y7), (10, .int y10)]) hX (dc_X12_nights 88 rfl) 9 rfl rfl (by decide) rfl ?_
      refine g_goto (tgt := 82) hX (dc_X12_nights 89 rfl) (by decide) ?_
      exact g_sub [3, 4, 5, 6, 7, 8, 1, 9, 2, 0] rfl (hk82 (y1) (y2) (y3) (y4) (y5) ((sI σ 1 8)) (y7) ((y8 + r26)) ((y9 + (1 : Int32))) r27 )
    · refine g_aload_n hX (dc_X12_nights 57 rfl) rfl 0 rfl ?_
      refine g_bipush (w := (100 : Int32)) hX (dc_X12_nights 58 rfl) (by decide) ?_
      refine gV_WI (As := [.int (100 : Int32)]) (st := []) hX (dc_X12_nights 59 rfl) ml_X12_509 (con_X12_draws hO hΩ (100 : Int32) σ) (stS hΩ 0 rfl) rfl rfl ⟨by decide, by decide⟩ ⟨rfl, rfl⟩ ⟨Nat.zero_le _, Nat.zero_le _⟩ (Nat.le_of_ble_eq_true rfl) (fun r28 _ => ?_)
      refine g_iload_n hX (dc_X12_nights 60 rfl) rfl 3 rfl ?_
      refine g_icmp_ge (tgt := 130) hX (dc_X12_nights 61 rfl) (by decide) (fun h29 => ?_) (fun h29 => ?_)
      · exact g_sub [0, 1, 2, 3, 4, 5, 6, 7, 8, 9] rfl (c_X12_nights_130 hX hO hΩ _ hk82 _ hk100 (y1) (y2) (y3) (y4) (y5) (y7) (y8) (y9) (y10) r28.2)
      · refine g_aload_n hX (dc_X12_nights 62 rfl) rfl 0 rfl ?_
        refine gV_PI (As := []) (st := []) hX (dc_X12_nights 63 rfl) ml_X12_506 (con_X12_going hO hΩ r28.2) (stS hΩ 0 rfl) rfl rfl ⟨by decide, by decide⟩ ⟨rfl, rfl⟩ ⟨Nat.zero_le _, Nat.zero_le _⟩ (Nat.le_of_ble_eq_true rfl) (fun r30 _ => ?_)
        refine g_if_eq (tgt := 130) hX (dc_X12_nights 64 rfl) (by decide) (fun h31 => ?_) (fun h31 => ?_)
        · exact g_sub [0, 1, 2, 3, 4, 5, 6, 7, 8, 9] rfl (c_X12_nights_130 hX hO hΩ _ hk82 _ hk100 (y1) (y2) (y3) (y4) (y5) (y7) (y8) (y9) (y10) r28.2)
        · refine g_aload_n hX (dc_X12_nights 65 rfl) rfl 0 rfl ?_
          refine gV_WV (As := []) (st := []) hX (dc_X12_nights 66 rfl) ml_X12_514 (con_X12_dropsDrawn hO hΩ r28.2) (stS hΩ 0 rfl) rfl rfl ⟨by decide, by decide⟩ ⟨rfl, rfl⟩ ⟨Nat.zero_le _, Nat.zero_le _⟩ (Nat.le_of_ble_eq_true rfl) (fun r32 _ => ?_)
          refine g_iinc (w := (y7 + (1 : Int32))) (L' := [(7, .int (y7 + (1 : Int32))), (0, .ref 0), (1, .int y1), (2, .int y2), (3, .int y3), (4, .int y4), (5, .int y5), (8, .int y8), (9, .int y9), (10, .int y10)]) hX (dc_X12_nights 67 rfl) 6 rfl rfl (by decide) rfl ?_
          exact g_sub [1, 2, 3, 4, 5, 6, 0, 7, 8, 9] rfl (c_X12_nights_130 hX hO hΩ _ hk82 _ hk100 (y1) (y2) (y3) (y4) (y5) ((y7 + (1 : Int32))) (y8) (y9) (y10) r32)
def b_X12_nights_82   : Nat → Int32 → Int32 → Int32 → Int32 → Int32 → Int32 → Int32 → Int32 → Int32 → MS → Option (Int32 × MS)
  | 0, _, _, _, _, _, _, _, _, _, _ => none
  | n + 1, y1, y2, y3, y4, y5, y6, y7, y8, y9, σ => (if y1 ≤ y9 then (if y4 = 0 then (b_X12_nights_197 (y7) (wI σ 1 8 y5)) else (b_X12_nights_197 (y8) (wI σ 1 8 y5))) else (b_X12_nights_100 (b_X12_nights_82  n) FU (y1) (y2) (y3) (y4) (y5) (y7) (y8) (y9) ((0 : Int32)) (wI σ 1 8 y6)))
set_option maxHeartbeats 4000000 in
set_option maxRecDepth 20000 in
theorem c_X12_nights_82 {X : CX} {Ω : OM} (hX : CF X Ω RX12 cX12_nights 11 (some .int) rm_X12_nights) (hO : OKO Ω) (hΩ : oSH Ω = SHM)    : ∀ (n : Nat) (y1 : Int32) (y2 : Int32) (y3 : Int32) (y4 : Int32) (y5 : Int32) (y6 : Int32) (y7 : Int32) (y8 : Int32) (y9 : Int32) (σ : MS) , GE X Ω 11 0 0 (emWI) 0 0 82 [(0, .ref 0), (1, .int y1), (2, .int y2), (3, .int y3), (4, .int y4), (5, .int y5), (6, .int y6), (7, .int y7), (8, .int y8), (9, .int y9)] [] σ (b_X12_nights_82  n y1 y2 y3 y4 y5 y6 y7 y8 y9 σ)
  | 0, _, _, _, _, _, _, _, _, _, _ => g_none
  | n + 1, y1, y2, y3, y4, y5, y6, y7, y8, y9, σ => by
    have hk82 := c_X12_nights_82 hX hO hΩ  n
    unfold b_X12_nights_82
    refine g_iload hX (dc_X12_nights 44 rfl) 9 rfl ?_
    refine g_iload_n hX (dc_X12_nights 45 rfl) rfl 1 rfl ?_
    refine g_icmp_ge (tgt := 176) hX (dc_X12_nights 46 rfl) (by decide) (fun h33 => ?_) (fun h33 => ?_)
    · refine g_aload_n hX (dc_X12_nights 90 rfl) rfl 0 rfl ?_
      refine g_getF (q := 1) hX (dc_X12_nights 91 rfl) fl_X12_9 (by decide) rfl (stS hΩ 0 rfl) rfl ?_
      refine g_bipush (w := (8 : Int32)) hX (dc_X12_nights 92 rfl) (by decide) ?_
      refine g_iload hX (dc_X12_nights 93 rfl) 5 rfl ?_
      refine g_iast (j := 8) hX (dc_X12_nights 94 rfl) (stS hΩ 1 rfl) (by decide) (by decide) ?_
      refine g_iload hX (dc_X12_nights 95 rfl) 4 rfl ?_
      refine g_if_ne (tgt := 195) hX (dc_X12_nights 96 rfl) (by decide) (fun h34 => ?_) (fun h34 => ?_)
      · refine g_iload hX (dc_X12_nights 97 rfl) 7 rfl ?_
        refine g_goto (tgt := 197) hX (dc_X12_nights 98 rfl) (by decide) ?_
        exact g_sub [] rfl (c_X12_nights_197 hX hO hΩ (y7) (wI σ 1 8 y5))
      · refine g_iload hX (dc_X12_nights 99 rfl) 8 rfl ?_
        exact g_sub [] rfl (c_X12_nights_197 hX hO hΩ (y8) (wI σ 1 8 y5))
    · refine g_aload_n hX (dc_X12_nights 47 rfl) rfl 0 rfl ?_
      refine g_getF (q := 1) hX (dc_X12_nights 48 rfl) fl_X12_9 (by decide) rfl (stS hΩ 0 rfl) rfl ?_
      refine g_bipush (w := (8 : Int32)) hX (dc_X12_nights 49 rfl) (by decide) ?_
      refine g_iload hX (dc_X12_nights 50 rfl) 6 rfl ?_
      refine g_iast (j := 8) hX (dc_X12_nights 51 rfl) (stS hΩ 1 rfl) (by decide) (by decide) ?_
      refine g_iconst (w := (0 : Int32)) hX (dc_X12_nights 52 rfl) (by decide) ?_
      refine g_istore (L' := [(10, .int (0 : Int32)), (0, .ref 0), (1, .int y1), (2, .int y2), (3, .int y3), (4, .int y4), (5, .int y5), (6, .int y6), (7, .int y7), (8, .int y8), (9, .int y9)]) hX (dc_X12_nights 53 rfl) (by decide) rfl ?_
      exact g_sub [1, 2, 3, 4, 5, 6, 8, 9, 10, 0] rfl (c_X12_nights_100 hX hO hΩ _ hk82 FU (y1) (y2) (y3) (y4) (y5) (y7) (y8) (y9) ((0 : Int32)) (wI σ 1 8 y6))
def b_X12_nights_54     (σ : MS) : Option (Int32 × MS) := some ((-1 : Int32), σ)
set_option maxHeartbeats 4000000 in
set_option maxRecDepth 20000 in
theorem c_X12_nights_54 {X : CX} {Ω : OM} (hX : CF X Ω RX12 cX12_nights 11 (some .int) rm_X12_nights) (hO : OKO Ω) (hΩ : oSH Ω = SHM)      (σ : MS)  : GE X Ω 11 0 0 (emWI) 0 0 54 [] [] σ (b_X12_nights_54  σ) := by
  unfold b_X12_nights_54
  refine g_iconst (w := (-1 : Int32)) hX (dc_X12_nights 27 rfl) (by decide) ?_
  exact g_iret hX (dc_X12_nights 28 rfl) rfl rfl (Nat.le_refl _) (Nat.le_refl _)
def b_X12_nights_0   (x1 : Int32) (x2 : Int32) (x3 : Int32) (x4 : Int32)  (σ : MS) : Option (Int32 × MS) := (if (sI σ 0 28) = 0 then (b_X12_nights_54 σ) else (f_X12_in (x1).toInt64 (1 : Int64) (10 : Int64)).bind (fun r36 => (if r36 = 0 then (b_X12_nights_54 σ) else (f_X12_in (x2).toInt64 (1 : Int64) (60 : Int64)).bind (fun r38 => (if r38 = 0 then (b_X12_nights_54 σ) else (f_X12_in (x3).toInt64 (0 : Int64) (100 : Int64)).bind (fun r40 => (if r40 = 0 then (b_X12_nights_54 σ) else (f_X12_in (x4).toInt64 (0 : Int64) (1 : Int64)).bind (fun r42 => (if r42 = 0 then (b_X12_nights_54 σ) else (f_X12_keepsAll σ).bind (fun r44 => (b_X12_nights_82 FU (x1) (x2) (x3) (x4) ((sI σ 1 8)) ((sI σ 1 8)) ((0 : Int32)) ((0 : Int32)) ((0 : Int32)) r44)))))))))))
set_option maxHeartbeats 4000000 in
set_option maxRecDepth 20000 in
theorem c_X12_nights_0 {X : CX} {Ω : OM} (hX : CF X Ω RX12 cX12_nights 11 (some .int) rm_X12_nights) (hO : OKO Ω) (hΩ : oSH Ω = SHM)    (x1 : Int32) (x2 : Int32) (x3 : Int32) (x4 : Int32)  (σ : MS)  : GE X Ω 11 0 0 (emWI) 0 0 0 [(0, .ref 0), (1, .int x1), (2, .int x2), (3, .int x3), (4, .int x4)] [] σ (b_X12_nights_0  x1 x2 x3 x4 σ) := by
  unfold b_X12_nights_0
  refine g_aload_n hX (dc_X12_nights 0 rfl) rfl 0 rfl ?_
  refine g_getI hX (dc_X12_nights 1 rfl) fl_X12_341 (by decide) rfl (stS hΩ 0 rfl) ?_
  refine g_if_eq (tgt := 54) hX (dc_X12_nights 2 rfl) (by decide) (fun h35 => ?_) (fun h35 => ?_)
  · exact g_sub [] rfl (c_X12_nights_54 hX hO hΩ σ)
  · refine g_iload_n hX (dc_X12_nights 3 rfl) rfl 1 rfl ?_
    refine g_i2l hX (dc_X12_nights 4 rfl) ?_
    refine g_lconst (w := (1 : Int64)) hX (dc_X12_nights 5 rfl) (by decide) ?_
    refine g_ldc2 hX (dc_X12_nights 6 rfl) wk_X12_512 ?_
    refine gS_PI (As := [.long (x1).toInt64, .long (1 : Int64), .long (10 : Int64)]) (st := []) hX (dc_X12_nights 7 rfl) ml_X12_161 (con_X12_in hO hΩ (x1).toInt64 (1 : Int64) (10 : Int64) σ) rfl rfl ⟨by decide, by decide⟩ ⟨rfl, rfl⟩ ⟨Nat.zero_le _, Nat.zero_le _⟩ (Nat.le_of_ble_eq_true rfl) (fun r36 _ => ?_)
    refine g_if_eq (tgt := 54) hX (dc_X12_nights 8 rfl) (by decide) (fun h37 => ?_) (fun h37 => ?_)
    · exact g_sub [] rfl (c_X12_nights_54 hX hO hΩ σ)
    · refine g_iload_n hX (dc_X12_nights 9 rfl) rfl 2 rfl ?_
      refine g_i2l hX (dc_X12_nights 10 rfl) ?_
      refine g_lconst (w := (1 : Int64)) hX (dc_X12_nights 11 rfl) (by decide) ?_
      refine g_ldc2 hX (dc_X12_nights 12 rfl) wk_X12_494 ?_
      refine gS_PI (As := [.long (x2).toInt64, .long (1 : Int64), .long (60 : Int64)]) (st := []) hX (dc_X12_nights 13 rfl) ml_X12_161 (con_X12_in hO hΩ (x2).toInt64 (1 : Int64) (60 : Int64) σ) rfl rfl ⟨by decide, by decide⟩ ⟨rfl, rfl⟩ ⟨Nat.zero_le _, Nat.zero_le _⟩ (Nat.le_of_ble_eq_true rfl) (fun r38 _ => ?_)
      refine g_if_eq (tgt := 54) hX (dc_X12_nights 14 rfl) (by decide) (fun h39 => ?_) (fun h39 => ?_)
      · exact g_sub [] rfl (c_X12_nights_54 hX hO hΩ σ)
      · refine g_iload_n hX (dc_X12_nights 15 rfl) rfl 3 rfl ?_
        refine g_i2l hX (dc_X12_nights 16 rfl) ?_
        refine g_lconst (w := (0 : Int64)) hX (dc_X12_nights 17 rfl) (by decide) ?_
        refine g_ldc2 hX (dc_X12_nights 18 rfl) wk_X12_460 ?_
        refine gS_PI (As := [.long (x3).toInt64, .long (0 : Int64), .long (100 : Int64)]) (st := []) hX (dc_X12_nights 19 rfl) ml_X12_161 (con_X12_in hO hΩ (x3).toInt64 (0 : Int64) (100 : Int64) σ) rfl rfl ⟨by decide, by decide⟩ ⟨rfl, rfl⟩ ⟨Nat.zero_le _, Nat.zero_le _⟩ (Nat.le_of_ble_eq_true rfl) (fun r40 _ => ?_)
        refine g_if_eq (tgt := 54) hX (dc_X12_nights 20 rfl) (by decide) (fun h41 => ?_) (fun h41 => ?_)
        · exact g_sub [] rfl (c_X12_nights_54 hX hO hΩ σ)
        · refine g_iload hX (dc_X12_nights 21 rfl) 4 rfl ?_
          refine g_i2l hX (dc_X12_nights 22 rfl) ?_
          refine g_lconst (w := (0 : Int64)) hX (dc_X12_nights 23 rfl) (by decide) ?_
          refine g_lconst (w := (1 : Int64)) hX (dc_X12_nights 24 rfl) (by decide) ?_
          refine gS_PI (As := [.long (x4).toInt64, .long (0 : Int64), .long (1 : Int64)]) (st := []) hX (dc_X12_nights 25 rfl) ml_X12_161 (con_X12_in hO hΩ (x4).toInt64 (0 : Int64) (1 : Int64) σ) rfl rfl ⟨by decide, by decide⟩ ⟨rfl, rfl⟩ ⟨Nat.zero_le _, Nat.zero_le _⟩ (Nat.le_of_ble_eq_true rfl) (fun r42 _ => ?_)
          refine g_if_ne (tgt := 56) hX (dc_X12_nights 26 rfl) (by decide) (fun h43 => ?_) (fun h43 => ?_)
          · exact g_sub [] rfl (c_X12_nights_54 hX hO hΩ σ)
          · refine g_aload_n hX (dc_X12_nights 29 rfl) rfl 0 rfl ?_
            refine g_getF (q := 1) hX (dc_X12_nights 30 rfl) fl_X12_9 (by decide) rfl (stS hΩ 0 rfl) rfl ?_
            refine g_bipush (w := (8 : Int32)) hX (dc_X12_nights 31 rfl) (by decide) ?_
            refine g_iald (j := 8) hX (dc_X12_nights 32 rfl) (stS hΩ 1 rfl) (by decide) (by decide) ?_
            refine g_istore (L' := [(5, .int (sI σ 1 8)), (0, .ref 0), (1, .int x1), (2, .int x2), (3, .int x3), (4, .int x4)]) hX (dc_X12_nights 33 rfl) (by decide) rfl ?_
            refine g_iload hX (dc_X12_nights 34 rfl) 0 rfl ?_
            refine g_istore (L' := [(6, .int (sI σ 1 8)), (5, .int (sI σ 1 8)), (0, .ref 0), (1, .int x1), (2, .int x2), (3, .int x3), (4, .int x4)]) hX (dc_X12_nights 35 rfl) (by decide) rfl ?_
            refine g_iconst (w := (0 : Int32)) hX (dc_X12_nights 36 rfl) (by decide) ?_
            refine g_istore (L' := [(7, .int (0 : Int32)), (6, .int (sI σ 1 8)), (5, .int (sI σ 1 8)), (0, .ref 0), (1, .int x1), (2, .int x2), (3, .int x3), (4, .int x4)]) hX (dc_X12_nights 37 rfl) (by decide) rfl ?_
            refine g_iconst (w := (0 : Int32)) hX (dc_X12_nights 38 rfl) (by decide) ?_
            refine g_istore (L' := [(8, .int (0 : Int32)), (7, .int (0 : Int32)), (6, .int (sI σ 1 8)), (5, .int (sI σ 1 8)), (0, .ref 0), (1, .int x1), (2, .int x2), (3, .int x3), (4, .int x4)]) hX (dc_X12_nights 39 rfl) (by decide) rfl ?_
            refine g_aload_n hX (dc_X12_nights 40 rfl) rfl 4 rfl ?_
            refine gV_WV (As := []) (st := []) hX (dc_X12_nights 41 rfl) ml_X12_462 (con_X12_keepsAll hO hΩ σ) (stS hΩ 0 rfl) rfl rfl ⟨by decide, by decide⟩ ⟨rfl, rfl⟩ ⟨Nat.zero_le _, Nat.zero_le _⟩ (Nat.le_of_ble_eq_true rfl) (fun r44 _ => ?_)
            refine g_iconst (w := (0 : Int32)) hX (dc_X12_nights 42 rfl) (by decide) ?_
            refine g_istore (L' := [(9, .int (0 : Int32)), (8, .int (0 : Int32)), (7, .int (0 : Int32)), (6, .int (sI σ 1 8)), (5, .int (sI σ 1 8)), (0, .ref 0), (1, .int x1), (2, .int x2), (3, .int x3), (4, .int x4)]) hX (dc_X12_nights 43 rfl) (by decide) rfl ?_
            exact g_sub [5, 6, 7, 8, 9, 4, 3, 2, 1, 0] rfl (c_X12_nights_82 hX hO hΩ FU (x1) (x2) (x3) (x4) ((sI σ 1 8)) ((sI σ 1 8)) ((0 : Int32)) ((0 : Int32)) ((0 : Int32)) r44)
def f_X12_nights (x1 : Int32) (x2 : Int32) (x3 : Int32) (x4 : Int32) (σ : MS) : Option (Int32 × MS) := b_X12_nights_0  x1 x2 x3 x4 σ
theorem con_X12_nights {Ω : OM} (hO : OKO Ω) (hΩ : oSH Ω = SHM) (x1 : Int32) (x2 : Int32) (x3 : Int32) (x4 : Int32) (σ : MS)  : Con Ω yX12_nights cX12_nights 11 (some .int) rm_X12_nights (emWI) [.ref 0, .int x1, .int x2, .int x3, .int x4] σ (f_X12_nights x1 x2 x3 x4 σ) :=
  con_of hO (by decide +kernel) (Nat.le_of_ble_eq_true rfl) rfl (fun X hX _ => c_X12_nights_0 hX hO hΩ   x1 x2 x3 x4 σ )
def it_X12_count : List (Nat × Instr × Nat × Nat) := [(0, .iload_n 1, 1, 1), (1, .tableswitch 180 0 14 #[75, 82, 89, 96, 103, 110, 115, 123, 130, 135, 143, 154, 162, 167, 175], 75, 76), (76, .aload_n 0, 1, 77), (77, .getfield 9, 3, 80), (80, .iconst 0, 1, 81), (81, .iaload, 1, 82), (82, .ireturn, 1, 83), (83, .aload_n 0, 1, 84), (84, .getfield 9, 3, 87), (87, .iconst 1, 1, 88), (88, .iaload, 1, 89), (89, .ireturn, 1, 90), (90, .aload_n 0, 1, 91), (91, .getfield 9, 3, 94), (94, .iconst 2, 1, 95), (95, .iaload, 1, 96), (96, .ireturn, 1, 97), (97, .aload_n 0, 1, 98), (98, .getfield 9, 3, 101), (101, .iconst 3, 1, 102), (102, .iaload, 1, 103), (103, .ireturn, 1, 104), (104, .aload_n 0, 1, 105), (105, .getfield 9, 3, 108), (108, .iconst 4, 1, 109), (109, .iaload, 1, 110), (110, .ireturn, 1, 111), (111, .aload_n 0, 1, 112), (112, .getfield 361, 3, 115), (115, .ireturn, 1, 116), (116, .aload_n 0, 1, 117), (117, .getfield 9, 3, 120), (120, .bipush 9, 2, 122), (122, .iaload, 1, 123), (123, .ireturn, 1, 124), (124, .aload_n 0, 1, 125), (125, .getfield 9, 3, 128), (128, .iconst 5, 1, 129), (129, .iaload, 1, 130), (130, .ireturn, 1, 131), (131, .aload_n 0, 1, 132), (132, .invokevirtual 506, 3, 135), (135, .ireturn, 1, 136), (136, .aload_n 0, 1, 137), (137, .getfield 9, 3, 140), (140, .bipush 6, 2, 142), (142, .iaload, 1, 143), (143, .ireturn, 1, 144), (144, .aload_n 0, 1, 145), (145, .aload_n 0, 1, 146), (146, .getfield 9, 3, 149), (149, .iconst 5, 1, 150), (150, .iaload, 1, 151), (151, .invokevirtual 491, 3, 154), (154, .ireturn, 1, 155), (155, .aload_n 0, 1, 156), (156, .getfield 9, 3, 159), (159, .bipush 7, 2, 161), (161, .iaload, 1, 162), (162, .ireturn, 1, 163), (163, .aload_n 0, 1, 164), (164, .getfield 348, 3, 167), (167, .ireturn, 1, 168), (168, .aload_n 0, 1, 169), (169, .getfield 9, 3, 172), (172, .bipush 8, 2, 174), (174, .iaload, 1, 175), (175, .ireturn, 1, 176), (176, .aload_n 0, 1, 177), (177, .getfield 169, 3, 180), (180, .ireturn, 1, 181), (181, .iconst (-1), 1, 182), (182, .ireturn, 1, 183)]
theorem id_X12_count : ∀ q ∈ it_X12_count, decode cX12_count q.1 = .ok (q.2.1, q.2.2.1) ∧ q.1 + q.2.2.1 = q.2.2.2 := by decide +kernel
theorem dc_X12_count {pc : Nat} {i : Instr} {n pc' : Nat} (j : Nat) (h : it_X12_count[j]? = some (pc, i, n, pc')) : Dc cX12_count pc i n pc' := dc_of id_X12_count j h
abbrev rm_X12_count : Room := { frames := 2, cells := 0, slots := 0, locals := 46 }
def b_X12_count_0   (x1 : Int32)  (σ : MS) : Option (Int32) := (if x1 = (0 : Int32) then some (sI σ 1 0) else (if x1 = (1 : Int32) then some (sI σ 1 1) else (if x1 = (2 : Int32) then some (sI σ 1 2) else (if x1 = (3 : Int32) then some (sI σ 1 3) else (if x1 = (4 : Int32) then some (sI σ 1 4) else (if x1 = (5 : Int32) then some (sI σ 0 33) else (if x1 = (6 : Int32) then some (sI σ 1 9) else (if x1 = (7 : Int32) then some (sI σ 1 5) else (if x1 = (8 : Int32) then (f_X12_going σ).bind (fun r33 => some r33) else (if x1 = (9 : Int32) then some (sI σ 1 6) else (if x1 = (10 : Int32) then (f_X12_awakeAt (sI σ 1 5) σ).bind (fun r34 => some r34) else (if x1 = (11 : Int32) then some (sI σ 1 7) else (if x1 = (12 : Int32) then some (sI σ 0 51) else (if x1 = (13 : Int32) then some (sI σ 1 8) else (if x1 = (14 : Int32) then some (sI σ 0 29) else some (-1 : Int32))))))))))))))))
set_option maxHeartbeats 4000000 in
set_option maxRecDepth 20000 in
theorem c_X12_count_0 {X : CX} {Ω : OM} (hX : CF X Ω RX12 cX12_count 2 (some .int) rm_X12_count) (hO : OKO Ω) (hΩ : oSH Ω = SHM)   (σ : MS)  (x1 : Int32)    : GE X Ω 2 0 0 (emPI σ) 0 0 0 [(0, .ref 0), (1, .int x1)] [] σ (b_X12_count_0  x1 σ) := by
  unfold b_X12_count_0
  refine g_iload_n hX (dc_X12_count 0 rfl) rfl 1 rfl ?_
  refine g_ite (fun h18 => ?_) (fun h18 => ?_)
  · refine g_tsIn (off := 75) (tgt := 76) hX (dc_X12_count 1 rfl) (by rw [h18]; decide) (by rw [h18]; decide) (by rw [h18]; rfl) (by decide) ?_
    refine g_aload_n hX (dc_X12_count 2 rfl) rfl 0 rfl ?_
    refine g_getF (q := 1) hX (dc_X12_count 3 rfl) fl_X12_9 (by decide) rfl (stS hΩ 0 rfl) rfl ?_
    refine g_iconst (w := (0 : Int32)) hX (dc_X12_count 4 rfl) (by decide) ?_
    refine g_iald (j := 0) hX (dc_X12_count 5 rfl) (stS hΩ 1 rfl) (by decide) (by decide) ?_
    exact g_iret hX (dc_X12_count 6 rfl) rfl rfl (Nat.le_refl _) (Nat.le_refl _)
  · refine g_ite (fun h19 => ?_) (fun h19 => ?_)
    · refine g_tsIn (off := 82) (tgt := 83) hX (dc_X12_count 1 rfl) (by rw [h19]; decide) (by rw [h19]; decide) (by rw [h19]; rfl) (by decide) ?_
      refine g_aload_n hX (dc_X12_count 7 rfl) rfl 0 rfl ?_
      refine g_getF (q := 1) hX (dc_X12_count 8 rfl) fl_X12_9 (by decide) rfl (stS hΩ 0 rfl) rfl ?_
      refine g_iconst (w := (1 : Int32)) hX (dc_X12_count 9 rfl) (by decide) ?_
      refine g_iald (j := 1) hX (dc_X12_count 10 rfl) (stS hΩ 1 rfl) (by decide) (by decide) ?_
      exact g_iret hX (dc_X12_count 11 rfl) rfl rfl (Nat.le_refl _) (Nat.le_refl _)
    · refine g_ite (fun h20 => ?_) (fun h20 => ?_)
      · refine g_tsIn (off := 89) (tgt := 90) hX (dc_X12_count 1 rfl) (by rw [h20]; decide) (by rw [h20]; decide) (by rw [h20]; rfl) (by decide) ?_
        refine g_aload_n hX (dc_X12_count 12 rfl) rfl 0 rfl ?_
        refine g_getF (q := 1) hX (dc_X12_count 13 rfl) fl_X12_9 (by decide) rfl (stS hΩ 0 rfl) rfl ?_
        refine g_iconst (w := (2 : Int32)) hX (dc_X12_count 14 rfl) (by decide) ?_
        refine g_iald (j := 2) hX (dc_X12_count 15 rfl) (stS hΩ 1 rfl) (by decide) (by decide) ?_
        exact g_iret hX (dc_X12_count 16 rfl) rfl rfl (Nat.le_refl _) (Nat.le_refl _)
      · refine g_ite (fun h21 => ?_) (fun h21 => ?_)
        · refine g_tsIn (off := 96) (tgt := 97) hX (dc_X12_count 1 rfl) (by rw [h21]; decide) (by rw [h21]; decide) (by rw [h21]; rfl) (by decide) ?_
          refine g_aload_n hX (dc_X12_count 17 rfl) rfl 0 rfl ?_
          refine g_getF (q := 1) hX (dc_X12_count 18 rfl) fl_X12_9 (by decide) rfl (stS hΩ 0 rfl) rfl ?_
          refine g_iconst (w := (3 : Int32)) hX (dc_X12_count 19 rfl) (by decide) ?_
          refine g_iald (j := 3) hX (dc_X12_count 20 rfl) (stS hΩ 1 rfl) (by decide) (by decide) ?_
          exact g_iret hX (dc_X12_count 21 rfl) rfl rfl (Nat.le_refl _) (Nat.le_refl _)
        · refine g_ite (fun h22 => ?_) (fun h22 => ?_)
          · refine g_tsIn (off := 103) (tgt := 104) hX (dc_X12_count 1 rfl) (by rw [h22]; decide) (by rw [h22]; decide) (by rw [h22]; rfl) (by decide) ?_
            refine g_aload_n hX (dc_X12_count 22 rfl) rfl 0 rfl ?_
            refine g_getF (q := 1) hX (dc_X12_count 23 rfl) fl_X12_9 (by decide) rfl (stS hΩ 0 rfl) rfl ?_
            refine g_iconst (w := (4 : Int32)) hX (dc_X12_count 24 rfl) (by decide) ?_
            refine g_iald (j := 4) hX (dc_X12_count 25 rfl) (stS hΩ 1 rfl) (by decide) (by decide) ?_
            exact g_iret hX (dc_X12_count 26 rfl) rfl rfl (Nat.le_refl _) (Nat.le_refl _)
          · refine g_ite (fun h23 => ?_) (fun h23 => ?_)
            · refine g_tsIn (off := 110) (tgt := 111) hX (dc_X12_count 1 rfl) (by rw [h23]; decide) (by rw [h23]; decide) (by rw [h23]; rfl) (by decide) ?_
              refine g_aload_n hX (dc_X12_count 27 rfl) rfl 0 rfl ?_
              refine g_getI hX (dc_X12_count 28 rfl) fl_X12_361 (by decide) rfl (stS hΩ 0 rfl) ?_
              exact g_iret hX (dc_X12_count 29 rfl) rfl rfl (Nat.le_refl _) (Nat.le_refl _)
            · refine g_ite (fun h24 => ?_) (fun h24 => ?_)
              · refine g_tsIn (off := 115) (tgt := 116) hX (dc_X12_count 1 rfl) (by rw [h24]; decide) (by rw [h24]; decide) (by rw [h24]; rfl) (by decide) ?_
                refine g_aload_n hX (dc_X12_count 30 rfl) rfl 0 rfl ?_
                refine g_getF (q := 1) hX (dc_X12_count 31 rfl) fl_X12_9 (by decide) rfl (stS hΩ 0 rfl) rfl ?_
                refine g_bipush (w := (9 : Int32)) hX (dc_X12_count 32 rfl) (by decide) ?_
                refine g_iald (j := 9) hX (dc_X12_count 33 rfl) (stS hΩ 1 rfl) (by decide) (by decide) ?_
                exact g_iret hX (dc_X12_count 34 rfl) rfl rfl (Nat.le_refl _) (Nat.le_refl _)
              · refine g_ite (fun h25 => ?_) (fun h25 => ?_)
                · refine g_tsIn (off := 123) (tgt := 124) hX (dc_X12_count 1 rfl) (by rw [h25]; decide) (by rw [h25]; decide) (by rw [h25]; rfl) (by decide) ?_
                  refine g_aload_n hX (dc_X12_count 35 rfl) rfl 0 rfl ?_
                  refine g_getF (q := 1) hX (dc_X12_count 36 rfl) fl_X12_9 (by decide) rfl (stS hΩ 0 rfl) rfl ?_
                  refine g_iconst (w := (5 : Int32)) hX (dc_X12_count 37 rfl) (by decide) ?_
                  refine g_iald (j := 5) hX (dc_X12_count 38 rfl) (stS hΩ 1 rfl) (by decide) (by decide) ?_
                  exact g_iret hX (dc_X12_count 39 rfl) rfl rfl (Nat.le_refl _) (Nat.le_refl _)
                · refine g_ite (fun h26 => ?_) (fun h26 => ?_)
                  · refine g_tsIn (off := 130) (tgt := 131) hX (dc_X12_count 1 rfl) (by rw [h26]; decide) (by rw [h26]; decide) (by rw [h26]; rfl) (by decide) ?_
                    refine g_aload_n hX (dc_X12_count 40 rfl) rfl 0 rfl ?_
                    refine gV_PI (As := []) (st := []) hX (dc_X12_count 41 rfl) ml_X12_506 (con_X12_going hO hΩ σ) (stS hΩ 0 rfl) rfl rfl ⟨by decide, by decide⟩ ⟨rfl, rfl⟩ ⟨Nat.zero_le _, Nat.zero_le _⟩ (Nat.le_of_ble_eq_true rfl) (fun r33 _ => ?_)
                    exact g_iret hX (dc_X12_count 42 rfl) rfl rfl (Nat.le_refl _) (Nat.le_refl _)
                  · refine g_ite (fun h27 => ?_) (fun h27 => ?_)
                    · refine g_tsIn (off := 135) (tgt := 136) hX (dc_X12_count 1 rfl) (by rw [h27]; decide) (by rw [h27]; decide) (by rw [h27]; rfl) (by decide) ?_
                      refine g_aload_n hX (dc_X12_count 43 rfl) rfl 0 rfl ?_
                      refine g_getF (q := 1) hX (dc_X12_count 44 rfl) fl_X12_9 (by decide) rfl (stS hΩ 0 rfl) rfl ?_
                      refine g_bipush (w := (6 : Int32)) hX (dc_X12_count 45 rfl) (by decide) ?_
                      refine g_iald (j := 6) hX (dc_X12_count 46 rfl) (stS hΩ 1 rfl) (by decide) (by decide) ?_
                      exact g_iret hX (dc_X12_count 47 rfl) rfl rfl (Nat.le_refl _) (Nat.le_refl _)
                    · refine g_ite (fun h28 => ?_) (fun h28 => ?_)
                      · refine g_tsIn (off := 143) (tgt := 144) hX (dc_X12_count 1 rfl) (by rw [h28]; decide) (by rw [h28]; decide) (by rw [h28]; rfl) (by decide) ?_
                        refine g_aload_n hX (dc_X12_count 48 rfl) rfl 0 rfl ?_
                        refine g_aload_n hX (dc_X12_count 49 rfl) rfl 0 rfl ?_
                        refine g_getF (q := 1) hX (dc_X12_count 50 rfl) fl_X12_9 (by decide) rfl (stS hΩ 0 rfl) rfl ?_
                        refine g_iconst (w := (5 : Int32)) hX (dc_X12_count 51 rfl) (by decide) ?_
                        refine g_iald (j := 5) hX (dc_X12_count 52 rfl) (stS hΩ 1 rfl) (by decide) (by decide) ?_
                        refine gV_PI (As := [.int (sI σ 1 5)]) (st := []) hX (dc_X12_count 53 rfl) ml_X12_491 (con_X12_awakeAt hO hΩ (sI σ 1 5) σ) (stS hΩ 0 rfl) rfl rfl ⟨by decide, by decide⟩ ⟨rfl, rfl⟩ ⟨Nat.zero_le _, Nat.zero_le _⟩ (Nat.le_of_ble_eq_true rfl) (fun r34 _ => ?_)
                        exact g_iret hX (dc_X12_count 54 rfl) rfl rfl (Nat.le_refl _) (Nat.le_refl _)
                      · refine g_ite (fun h29 => ?_) (fun h29 => ?_)
                        · refine g_tsIn (off := 154) (tgt := 155) hX (dc_X12_count 1 rfl) (by rw [h29]; decide) (by rw [h29]; decide) (by rw [h29]; rfl) (by decide) ?_
                          refine g_aload_n hX (dc_X12_count 55 rfl) rfl 0 rfl ?_
                          refine g_getF (q := 1) hX (dc_X12_count 56 rfl) fl_X12_9 (by decide) rfl (stS hΩ 0 rfl) rfl ?_
                          refine g_bipush (w := (7 : Int32)) hX (dc_X12_count 57 rfl) (by decide) ?_
                          refine g_iald (j := 7) hX (dc_X12_count 58 rfl) (stS hΩ 1 rfl) (by decide) (by decide) ?_
                          exact g_iret hX (dc_X12_count 59 rfl) rfl rfl (Nat.le_refl _) (Nat.le_refl _)
                        · refine g_ite (fun h30 => ?_) (fun h30 => ?_)
                          · refine g_tsIn (off := 162) (tgt := 163) hX (dc_X12_count 1 rfl) (by rw [h30]; decide) (by rw [h30]; decide) (by rw [h30]; rfl) (by decide) ?_
                            refine g_aload_n hX (dc_X12_count 60 rfl) rfl 0 rfl ?_
                            refine g_getI hX (dc_X12_count 61 rfl) fl_X12_348 (by decide) rfl (stS hΩ 0 rfl) ?_
                            exact g_iret hX (dc_X12_count 62 rfl) rfl rfl (Nat.le_refl _) (Nat.le_refl _)
                          · refine g_ite (fun h31 => ?_) (fun h31 => ?_)
                            · refine g_tsIn (off := 167) (tgt := 168) hX (dc_X12_count 1 rfl) (by rw [h31]; decide) (by rw [h31]; decide) (by rw [h31]; rfl) (by decide) ?_
                              refine g_aload_n hX (dc_X12_count 63 rfl) rfl 0 rfl ?_
                              refine g_getF (q := 1) hX (dc_X12_count 64 rfl) fl_X12_9 (by decide) rfl (stS hΩ 0 rfl) rfl ?_
                              refine g_bipush (w := (8 : Int32)) hX (dc_X12_count 65 rfl) (by decide) ?_
                              refine g_iald (j := 8) hX (dc_X12_count 66 rfl) (stS hΩ 1 rfl) (by decide) (by decide) ?_
                              exact g_iret hX (dc_X12_count 67 rfl) rfl rfl (Nat.le_refl _) (Nat.le_refl _)
                            · refine g_ite (fun h32 => ?_) (fun h32 => ?_)
                              · refine g_tsIn (off := 175) (tgt := 176) hX (dc_X12_count 1 rfl) (by rw [h32]; decide) (by rw [h32]; decide) (by rw [h32]; rfl) (by decide) ?_
                                refine g_aload_n hX (dc_X12_count 68 rfl) rfl 0 rfl ?_
                                refine g_getI hX (dc_X12_count 69 rfl) fl_X12_169 (by decide) rfl (stS hΩ 0 rfl) ?_
                                exact g_iret hX (dc_X12_count 70 rfl) rfl rfl (Nat.le_refl _) (Nat.le_refl _)
                              · refine g_tsOut (tgt := 181) hX (dc_X12_count 1 rfl) (by have e0 := i32ne h18 (k := 0) (by decide); have e1 := i32ne h19 (k := 1) (by decide); have e2 := i32ne h20 (k := 2) (by decide); have e3 := i32ne h21 (k := 3) (by decide); have e4 := i32ne h22 (k := 4) (by decide); have e5 := i32ne h23 (k := 5) (by decide); have e6 := i32ne h24 (k := 6) (by decide); have e7 := i32ne h25 (k := 7) (by decide); have e8 := i32ne h26 (k := 8) (by decide); have e9 := i32ne h27 (k := 9) (by decide); have e10 := i32ne h28 (k := 10) (by decide); have e11 := i32ne h29 (k := 11) (by decide); have e12 := i32ne h30 (k := 12) (by decide); have e13 := i32ne h31 (k := 13) (by decide); have e14 := i32ne h32 (k := 14) (by decide); omega) (by decide) ?_
                                refine g_iconst (w := (-1 : Int32)) hX (dc_X12_count 71 rfl) (by decide) ?_
                                exact g_iret hX (dc_X12_count 72 rfl) rfl rfl (Nat.le_refl _) (Nat.le_refl _)
def f_X12_count (x1 : Int32) (σ : MS) : Option (Int32) := b_X12_count_0  x1 σ
theorem con_X12_count {Ω : OM} (hO : OKO Ω) (hΩ : oSH Ω = SHM) (x1 : Int32) (σ : MS)  : Con Ω yX12_count cX12_count 2 (some .int) rm_X12_count (emPI σ) [.ref 0, .int x1] σ (f_X12_count x1 σ) :=
  con_of hO (by decide +kernel) (Nat.le_of_ble_eq_true rfl) rfl (fun X hX _ => c_X12_count_0 hX hO hΩ   σ x1)
def it_X12_image : List (Nat × Instr × Nat × Nat) := [(0, .iload_n 1, 1, 1), (1, .i2l, 1, 2), (2, .lconst 0, 1, 3), (3, .ldc2_w 526, 3, 6), (6, .invokestatic 161, 3, 9), (9, .ifCond .ne 5, 3, 12), (12, .iconst (-1), 1, 13), (13, .ireturn, 1, 14), (14, .aload_n 0, 1, 15), (15, .getfield 151, 3, 18), (18, .iload_n 1, 1, 19), (19, .iconst 1, 1, 20), (20, .bastore, 1, 21), (21, .aload_n 0, 1, 22), (22, .getfield 155, 3, 25), (25, .iload_n 1, 1, 26), (26, .aload_n 0, 1, 27), (27, .getfield 341, 3, 30), (30, .bastore, 1, 31), (31, .aload_n 0, 1, 32), (32, .iload_n 1, 1, 33), (33, .iconst 0, 1, 34), (34, .invokevirtual 457, 3, 37), (37, .aload_n 0, 1, 38), (38, .getfield 9, 3, 41), (41, .iconst 5, 1, 42), (42, .iaload, 1, 43), (43, .ireturn, 1, 44)]
theorem id_X12_image : ∀ q ∈ it_X12_image, decode cX12_image q.1 = .ok (q.2.1, q.2.2.1) ∧ q.1 + q.2.2.1 = q.2.2.2 := by decide +kernel
theorem dc_X12_image {pc : Nat} {i : Instr} {n pc' : Nat} (j : Nat) (h : it_X12_image[j]? = some (pc, i, n, pc')) : Dc cX12_image pc i n pc' := dc_of id_X12_image j h
abbrev rm_X12_image : Room := { frames := 2, cells := 0, slots := 0, locals := 44 }
def b_X12_image_0   (x1 : Int32)  (σ : MS) : Option (Int32 × MS) := (f_X12_in (x1).toInt64 (0 : Int64) (3 : Int64)).bind (fun r6 => (if r6 = 0 then some ((-1 : Int32), σ) else chk (inb x1 4) (chk (inb x1 4) ((f_X12_carriesAll x1 (0 : Int32) (wI (wI σ 46 (ix x1) (vp_nar .boolean (1 : Int32))) 47 (ix x1) (vp_nar .boolean (sI (wI σ 46 (ix x1) (vp_nar .boolean (1 : Int32))) 0 28)))).bind (fun r10 => some ((sI r10 1 5), r10))))))
set_option maxHeartbeats 4000000 in
set_option maxRecDepth 20000 in
theorem c_X12_image_0 {X : CX} {Ω : OM} (hX : CF X Ω RX12 cX12_image 2 (some .int) rm_X12_image) (hO : OKO Ω) (hΩ : oSH Ω = SHM)    (x1 : Int32)  (σ : MS)  : GE X Ω 2 0 0 (emWI) 0 0 0 [(0, .ref 0), (1, .int x1)] [] σ (b_X12_image_0  x1 σ) := by
  unfold b_X12_image_0
  refine g_iload_n hX (dc_X12_image 0 rfl) rfl 1 rfl ?_
  refine g_i2l hX (dc_X12_image 1 rfl) ?_
  refine g_lconst (w := (0 : Int64)) hX (dc_X12_image 2 rfl) (by decide) ?_
  refine g_ldc2 hX (dc_X12_image 3 rfl) wk_X12_526 ?_
  refine gS_PI (As := [.long (x1).toInt64, .long (0 : Int64), .long (3 : Int64)]) (st := []) hX (dc_X12_image 4 rfl) ml_X12_161 (con_X12_in hO hΩ (x1).toInt64 (0 : Int64) (3 : Int64) σ) rfl rfl ⟨by decide, by decide⟩ ⟨rfl, rfl⟩ ⟨Nat.zero_le _, Nat.zero_le _⟩ (Nat.le_of_ble_eq_true rfl) (fun r6 _ => ?_)
  refine g_if_ne (tgt := 14) hX (dc_X12_image 5 rfl) (by decide) (fun h7 => ?_) (fun h7 => ?_)
  · refine g_iconst (w := (-1 : Int32)) hX (dc_X12_image 6 rfl) (by decide) ?_
    exact g_iret hX (dc_X12_image 7 rfl) rfl rfl (Nat.le_refl _) (Nat.le_refl _)
  · refine g_aload_n hX (dc_X12_image 8 rfl) rfl 0 rfl ?_
    refine g_getF (q := 46) hX (dc_X12_image 9 rfl) fl_X12_151 (by decide) rfl (stS hΩ 0 rfl) rfl ?_
    refine g_iload_n hX (dc_X12_image 10 rfl) rfl 1 rfl ?_
    refine g_iconst (w := (1 : Int32)) hX (dc_X12_image 11 rfl) (by decide) ?_
    refine g_chk (fun hc8 => ?_)
    refine g_zast hX (dc_X12_image 12 rfl) (stS hΩ 46 rfl) hc8 rfl ?_
    refine g_aload_n hX (dc_X12_image 13 rfl) rfl 0 rfl ?_
    refine g_getF (q := 47) hX (dc_X12_image 14 rfl) fl_X12_155 (by decide) rfl (stS hΩ 0 rfl) rfl ?_
    refine g_iload_n hX (dc_X12_image 15 rfl) rfl 1 rfl ?_
    refine g_aload_n hX (dc_X12_image 16 rfl) rfl 0 rfl ?_
    refine g_getI hX (dc_X12_image 17 rfl) fl_X12_341 (by decide) rfl (stS hΩ 0 rfl) ?_
    refine g_chk (fun hc9 => ?_)
    refine g_zast hX (dc_X12_image 18 rfl) (stS hΩ 47 rfl) hc9 rfl ?_
    refine g_aload_n hX (dc_X12_image 19 rfl) rfl 0 rfl ?_
    refine g_iload_n hX (dc_X12_image 20 rfl) rfl 1 rfl ?_
    refine g_iconst (w := (0 : Int32)) hX (dc_X12_image 21 rfl) (by decide) ?_
    refine gV_WV (As := [.int x1, .int (0 : Int32)]) (st := []) hX (dc_X12_image 22 rfl) ml_X12_457 (con_X12_carriesAll hO hΩ x1 (0 : Int32) (wI (wI σ 46 (ix x1) (vp_nar .boolean (1 : Int32))) 47 (ix x1) (vp_nar .boolean (sI (wI σ 46 (ix x1) (vp_nar .boolean (1 : Int32))) 0 28)))) (stS hΩ 0 rfl) rfl rfl ⟨by decide, by decide⟩ ⟨rfl, rfl⟩ ⟨Nat.zero_le _, Nat.zero_le _⟩ (Nat.le_of_ble_eq_true rfl) (fun r10 _ => ?_)
    refine g_aload_n hX (dc_X12_image 23 rfl) rfl 0 rfl ?_
    refine g_getF (q := 1) hX (dc_X12_image 24 rfl) fl_X12_9 (by decide) rfl (stS hΩ 0 rfl) rfl ?_
    refine g_iconst (w := (5 : Int32)) hX (dc_X12_image 25 rfl) (by decide) ?_
    refine g_iald (j := 5) hX (dc_X12_image 26 rfl) (stS hΩ 1 rfl) (by decide) (by decide) ?_
    exact g_iret hX (dc_X12_image 27 rfl) rfl rfl (Nat.le_refl _) (Nat.le_refl _)
def f_X12_image (x1 : Int32) (σ : MS) : Option (Int32 × MS) := b_X12_image_0  x1 σ
theorem con_X12_image {Ω : OM} (hO : OKO Ω) (hΩ : oSH Ω = SHM) (x1 : Int32) (σ : MS)  : Con Ω yX12_image cX12_image 2 (some .int) rm_X12_image (emWI) [.ref 0, .int x1] σ (f_X12_image x1 σ) :=
  con_of hO (by decide +kernel) (Nat.le_of_ble_eq_true rfl) rfl (fun X hX _ => c_X12_image_0 hX hO hΩ   x1 σ )
def it_X12_back : List (Nat × Instr × Nat × Nat) := [(0, .iload_n 1, 1, 1), (1, .i2l, 1, 2), (2, .lconst 0, 1, 3), (3, .ldc2_w 526, 3, 6), (6, .invokestatic 161, 3, 9), (9, .ifCond .eq 12, 3, 12), (12, .aload_n 0, 1, 13), (13, .getfield 151, 3, 16), (16, .iload_n 1, 1, 17), (17, .baload, 1, 18), (18, .ifCond .ne 5, 3, 21), (21, .iconst (-1), 1, 22), (22, .ireturn, 1, 23), (23, .aload_n 0, 1, 24), (24, .aload_n 0, 1, 25), (25, .getfield 155, 3, 28), (28, .iload_n 1, 1, 29), (29, .baload, 1, 30), (30, .putfield 341, 3, 33), (33, .aload_n 0, 1, 34), (34, .iload_n 1, 1, 35), (35, .iconst 1, 1, 36), (36, .invokevirtual 457, 3, 39), (39, .aload_n 0, 1, 40), (40, .getfield 9, 3, 43), (43, .iconst 5, 1, 44), (44, .iaload, 1, 45), (45, .ireturn, 1, 46)]
theorem id_X12_back : ∀ q ∈ it_X12_back, decode cX12_back q.1 = .ok (q.2.1, q.2.2.1) ∧ q.1 + q.2.2.1 = q.2.2.2 := by decide +kernel
theorem dc_X12_back {pc : Nat} {i : Instr} {n pc' : Nat} (j : Nat) (h : it_X12_back[j]? = some (pc, i, n, pc')) : Dc cX12_back pc i n pc' := dc_of id_X12_back j h
abbrev rm_X12_back : Room := { frames := 2, cells := 0, slots := 0, locals := 44 }
def b_X12_back_21     (σ : MS) : Option (Int32 × MS) := some ((-1 : Int32), σ)
set_option maxHeartbeats 4000000 in
set_option maxRecDepth 20000 in
theorem c_X12_back_21 {X : CX} {Ω : OM} (hX : CF X Ω RX12 cX12_back 2 (some .int) rm_X12_back) (hO : OKO Ω) (hΩ : oSH Ω = SHM)      (σ : MS)  : GE X Ω 2 0 0 (emWI) 0 0 21 [] [] σ (b_X12_back_21  σ) := by
  unfold b_X12_back_21
  refine g_iconst (w := (-1 : Int32)) hX (dc_X12_back 11 rfl) (by decide) ?_
  exact g_iret hX (dc_X12_back 12 rfl) rfl rfl (Nat.le_refl _) (Nat.le_refl _)
def b_X12_back_0   (x1 : Int32)  (σ : MS) : Option (Int32 × MS) := (f_X12_in (x1).toInt64 (0 : Int64) (3 : Int64)).bind (fun r8 => (if r8 = 0 then (b_X12_back_21 σ) else chk (inb x1 4) ((if (sI σ 46 (ix x1)) = 0 then (b_X12_back_21 σ) else chk (inb x1 4) (chk ((sI σ 47 (ix x1)) = 0 ∨ (sI σ 47 (ix x1)) = 1) ((f_X12_carriesAll x1 (1 : Int32) (wI σ 0 28 (sI σ 47 (ix x1)))).bind (fun r14 => some ((sI r14 1 5), r14))))))))
set_option maxHeartbeats 4000000 in
set_option maxRecDepth 20000 in
theorem c_X12_back_0 {X : CX} {Ω : OM} (hX : CF X Ω RX12 cX12_back 2 (some .int) rm_X12_back) (hO : OKO Ω) (hΩ : oSH Ω = SHM)    (x1 : Int32)  (σ : MS)  : GE X Ω 2 0 0 (emWI) 0 0 0 [(0, .ref 0), (1, .int x1)] [] σ (b_X12_back_0  x1 σ) := by
  unfold b_X12_back_0
  refine g_iload_n hX (dc_X12_back 0 rfl) rfl 1 rfl ?_
  refine g_i2l hX (dc_X12_back 1 rfl) ?_
  refine g_lconst (w := (0 : Int64)) hX (dc_X12_back 2 rfl) (by decide) ?_
  refine g_ldc2 hX (dc_X12_back 3 rfl) wk_X12_526 ?_
  refine gS_PI (As := [.long (x1).toInt64, .long (0 : Int64), .long (3 : Int64)]) (st := []) hX (dc_X12_back 4 rfl) ml_X12_161 (con_X12_in hO hΩ (x1).toInt64 (0 : Int64) (3 : Int64) σ) rfl rfl ⟨by decide, by decide⟩ ⟨rfl, rfl⟩ ⟨Nat.zero_le _, Nat.zero_le _⟩ (Nat.le_of_ble_eq_true rfl) (fun r8 _ => ?_)
  refine g_if_eq (tgt := 21) hX (dc_X12_back 5 rfl) (by decide) (fun h9 => ?_) (fun h9 => ?_)
  · exact g_sub [] rfl (c_X12_back_21 hX hO hΩ σ)
  · refine g_aload_n hX (dc_X12_back 6 rfl) rfl 0 rfl ?_
    refine g_getF (q := 46) hX (dc_X12_back 7 rfl) fl_X12_151 (by decide) rfl (stS hΩ 0 rfl) rfl ?_
    refine g_iload_n hX (dc_X12_back 8 rfl) rfl 1 rfl ?_
    refine g_chk (fun hc10 => ?_)
    refine g_zald hX (dc_X12_back 9 rfl) (stS hΩ 46 rfl) hc10 rfl ?_
    refine g_if_ne (tgt := 23) hX (dc_X12_back 10 rfl) (by decide) (fun h11 => ?_) (fun h11 => ?_)
    · exact g_sub [] rfl (c_X12_back_21 hX hO hΩ σ)
    · refine g_aload_n hX (dc_X12_back 13 rfl) rfl 0 rfl ?_
      refine g_aload_n hX (dc_X12_back 14 rfl) rfl 0 rfl ?_
      refine g_getF (q := 47) hX (dc_X12_back 15 rfl) fl_X12_155 (by decide) rfl (stS hΩ 0 rfl) rfl ?_
      refine g_iload_n hX (dc_X12_back 16 rfl) rfl 1 rfl ?_
      refine g_chk (fun hc12 => ?_)
      refine g_zald hX (dc_X12_back 17 rfl) (stS hΩ 47 rfl) hc12 rfl ?_
      refine g_chk (fun hc13 => ?_)
      refine g_putI (raw := false) hX (dc_X12_back 18 rfl) fl_X12_341 (by decide) ⟨rfl, rfl⟩ (nz_bool hc13) (stS hΩ 0 rfl) ?_
      refine g_aload_n hX (dc_X12_back 19 rfl) rfl 0 rfl ?_
      refine g_iload_n hX (dc_X12_back 20 rfl) rfl 1 rfl ?_
      refine g_iconst (w := (1 : Int32)) hX (dc_X12_back 21 rfl) (by decide) ?_
      refine gV_WV (As := [.int x1, .int (1 : Int32)]) (st := []) hX (dc_X12_back 22 rfl) ml_X12_457 (con_X12_carriesAll hO hΩ x1 (1 : Int32) (wI σ 0 28 (sI σ 47 (ix x1)))) (stS hΩ 0 rfl) rfl rfl ⟨by decide, by decide⟩ ⟨rfl, rfl⟩ ⟨Nat.zero_le _, Nat.zero_le _⟩ (Nat.le_of_ble_eq_true rfl) (fun r14 _ => ?_)
      refine g_aload_n hX (dc_X12_back 23 rfl) rfl 0 rfl ?_
      refine g_getF (q := 1) hX (dc_X12_back 24 rfl) fl_X12_9 (by decide) rfl (stS hΩ 0 rfl) rfl ?_
      refine g_iconst (w := (5 : Int32)) hX (dc_X12_back 25 rfl) (by decide) ?_
      refine g_iald (j := 5) hX (dc_X12_back 26 rfl) (stS hΩ 1 rfl) (by decide) (by decide) ?_
      exact g_iret hX (dc_X12_back 27 rfl) rfl rfl (Nat.le_refl _) (Nat.le_refl _)
def f_X12_back (x1 : Int32) (σ : MS) : Option (Int32 × MS) := b_X12_back_0  x1 σ
theorem con_X12_back {Ω : OM} (hO : OKO Ω) (hΩ : oSH Ω = SHM) (x1 : Int32) (σ : MS)  : Con Ω yX12_back cX12_back 2 (some .int) rm_X12_back (emWI) [.ref 0, .int x1] σ (f_X12_back x1 σ) :=
  con_of hO (by decide +kernel) (Nat.le_of_ble_eq_true rfl) rfl (fun X hX _ => c_X12_back_0 hX hO hΩ   x1 σ )
