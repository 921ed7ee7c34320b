set_option maxRecDepth 100000 in
theorem g_JM_max0 {d : Nat} {x y : Int32} {M : Mem} {R : Option Value → Mem → Prop} (hR : R (some (.int (if x < y then y else x))) M) : Call d 0 [.int x, .int y] M R := by
  show Go d 0 0 0 0 [.int x, .int y] [] M R
  refine go_blk 2 [] (pc' := 2) (vs' := [.int x, .int y]) (st' := [.int y, .int x]) (M' := M) (ps := []) rfl trivial ?_
  refine go_icmp rfl (fun (c1 : x < y) => ?_) (fun (c1 : ¬ x < y) => ?_)
  · refine go_blk 1 [] (pc' := 10) (vs' := [.int x, .int y]) (st' := [.int y]) (M' := M) (ps := []) rfl trivial ?_
    refine go_iret rfl rfl ?_
    rw [if_pos c1] at hR
    exact hR
  · refine go_blk 2 [] (pc' := 10) (vs' := [.int x, .int y]) (st' := [.int x]) (M' := M) (ps := []) rfl trivial ?_
    refine go_iret rfl rfl ?_
    rw [if_neg c1] at hR
    exact hR
