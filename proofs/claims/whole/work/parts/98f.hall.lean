/-! ===== all calls; the law's body ===== -/
section ALL
theorem hall : ∀ k, k < 32 → StpS k
  | 0, _ => s_0.s
  | 1, _ => s_1.s
  | 2, _ => s_2.s
  | 3, _ => s_3
  | 4, _ => s_4.s
  | 5, _ => s_5.s
  | 6, _ => s_6.s
  | 7, _ => s_7.s
  | 8, _ => s_8
  | 9, _ => s_9
  | 10, _ => s_10
  | 11, _ => s_11
  | 12, _ => s_12
  | 13, _ => s_13
  | 14, _ => s_14.s
  | 15, _ => s_15.s
  | 16, _ => s_16.s
  | 17, _ => s_17.s
  | 18, _ => s_18.s
  | 19, _ => s_19.s
  | 20, _ => s_20.s
  | 21, _ => s_21.s
  | 22, _ => s_22.s
  | 23, _ => s_23.s
  | 24, _ => s_24.s
  | 25, _ => s_25.s
  | 26, _ => s_26.s
  | 27, _ => s_27.s
  | 28, _ => s_28.s
  | 29, _ => s_29.s
  | 30, _ => s_30
  | 31, _ => s_31
  | n + 32, h => absurd h (by omega)
theorem whole_start {p : Program} (l : Launch) {e : Env} {s : State} {m : MethodId} {below : List Frame} {meth : Method} {c : Code} {b Ln : Nat} {xs : Nat → Int32} (hbd : Ln ≤ 3072) (h : lw_At p s m meth c b Ln xs) : W p l e room_1 s m #[Value.ref b] below meth c s.heap [] 0 0 (lw_Z below #[Value.ref b] s) (entryFrame m ([Value.ref b] : List Value).toArray 4) := whole_at hall hbd h
end ALL
