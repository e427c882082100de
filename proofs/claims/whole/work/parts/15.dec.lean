def dec_okRule (σ : MS) (b : Nat) : Decidable (okRule σ b) := by unfold okRule; infer_instance
def dec_dRt (σ : MS) (a : Nat) (sh : List (Nat × Nat)) : Decidable (dRt σ a sh) := by unfold dRt; infer_instance
def dec_finOK (σ : MS) (a ci : Nat) : Decidable (finOK σ a ci) := by unfold finOK; infer_instance
theorem g_chkd {X : CX} {Ω : OM} {nL mc ms : Nat} {β : Type} {em : β → Option Value × MS} {u v pc : Nat} {L : List (Nat × Value)} {st : List Value} {σ : MS} {E : Option β} {c : Prop} {d : Decidable c} (h : c → GE X Ω nL mc ms em u v pc L st σ E) : GE X Ω nL mc ms em u v pc L st σ (@chk c d β E) := @g_chk X Ω nL mc ms β em u v pc L st σ E c d h
