/-! the same with askedCount kept -/
def ja_pr (q k : Nat) : Bool := jc_pr q k || (q == 3 && k == 2)
theorem ja_pr_le (q k : Nat) (h : jc_pr q k = true) : ja_pr q k = true := by
  unfold ja_pr
  rw [h]
  rfl
theorem ja_s79 (d : Nat) : jk_Sp jc_RT ja_pr jc_sg (jv_run (d + 1)) 79 := jk_meth (d := d) (f := 18) (c := 0) (cs := []) (an := []) (sg' := jk_sgl jc_sg []) rfl (by decide +kernel) (jk_sgl_ok (List.forall_mem_nil _))
theorem ja_s80 (d : Nat) : jk_Sp jc_RT ja_pr jc_sg (jv_run (d + 1)) 80 := jk_meth (d := d) (f := 21) (c := 0) (cs := []) (an := []) (sg' := jk_sgl jc_sg []) rfl (by decide +kernel) (jk_sgl_ok (List.forall_mem_nil _))
theorem ja_s154 (d : Nat) : jk_Sp jc_RT ja_pr jc_sg (jv_run (d + 1)) 154 := jk_meth (d := d) (f := 18) (c := 0) (cs := []) (an := []) (sg' := jk_sgl jc_sg []) rfl (by decide +kernel) (jk_sgl_ok (List.forall_mem_nil _))
theorem ja_s87 (d : Nat) : jk_Sp jc_RT ja_pr jc_sg (jv_run (d + 2)) 87 := jk_meth (d := d + 1) (f := 14) (c := 0) (cs := []) (an := []) (sg' := jk_sgl jc_sg [154]) rfl (by decide +kernel) (jk_sgl_ok (List.forall_mem_cons.mpr ⟨ja_s154 d, List.forall_mem_nil _⟩))
theorem ja_s86 (d : Nat) : jk_Sp jc_RT ja_pr jc_sg (jv_run (d + 3)) 86 := jk_meth (d := d + 2) (f := 25) (c := 65) (cs := [(4, 0)]) (an := [(8, [some (.inr (.inr (3, true))), some jk_top, some (.inl ((-1), 63)), some (.inl ((-2147483648), 32)), some (.inl (0, 64)), none], 64, [(4, 1)])]) (sg' := jk_sgl jc_sg [87]) rfl (by decide +kernel) (jk_sgl_ok (List.forall_mem_cons.mpr ⟨ja_s87 d, List.forall_mem_nil _⟩))
