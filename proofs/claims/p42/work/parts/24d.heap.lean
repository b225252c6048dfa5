def rg_PL : List (Nat × Nat × Option Nat) := rg_PL0 ++ (rg_PL1 ++ (rg_PL2 ++ (rg_PL3 ++ (rg_PL4 ++ (rg_PL5 ++ (rg_PL6 ++ (rg_PL7 ++ (rg_PL8 ++ (rg_PL9 ++ (rg_PL10))))))))))
def rg_DL : List (Nat × Nat × Int) := rg_DL0 ++ (rg_DL1 ++ (rg_DL2 ++ (rg_DL3 ++ (rg_DL4 ++ (rg_DL5 ++ (rg_DL6))))))
theorem rg_Pm : ∀ q ∈ rg_PL, rg_Pc q = true := List.forall_mem_append.mpr ⟨List.all_eq_true.mp rg_Pt0, List.forall_mem_append.mpr ⟨List.all_eq_true.mp rg_Pt1, List.forall_mem_append.mpr ⟨List.all_eq_true.mp rg_Pt2, List.forall_mem_append.mpr ⟨List.all_eq_true.mp rg_Pt3, List.forall_mem_append.mpr ⟨List.all_eq_true.mp rg_Pt4, List.forall_mem_append.mpr ⟨List.all_eq_true.mp rg_Pt5, List.forall_mem_append.mpr ⟨List.all_eq_true.mp rg_Pt6, List.forall_mem_append.mpr ⟨List.all_eq_true.mp rg_Pt7, List.forall_mem_append.mpr ⟨List.all_eq_true.mp rg_Pt8, List.forall_mem_append.mpr ⟨List.all_eq_true.mp rg_Pt9, List.all_eq_true.mp rg_Pt10⟩⟩⟩⟩⟩⟩⟩⟩⟩⟩
theorem rg_Dm : ∀ q ∈ rg_DL, rg_Dc q = true := List.forall_mem_append.mpr ⟨List.all_eq_true.mp rg_Dt0, List.forall_mem_append.mpr ⟨List.all_eq_true.mp rg_Dt1, List.forall_mem_append.mpr ⟨List.all_eq_true.mp rg_Dt2, List.forall_mem_append.mpr ⟨List.all_eq_true.mp rg_Dt3, List.forall_mem_append.mpr ⟨List.all_eq_true.mp rg_Dt4, List.forall_mem_append.mpr ⟨List.all_eq_true.mp rg_Dt5, List.all_eq_true.mp rg_Dt6⟩⟩⟩⟩⟩⟩
theorem rg_Pcd {k i : Nat} {v : Option Nat} (h : rg_Pc (k, i, v) = true) : rg_P k i = v := by
  unfold rg_Pc at h
  exact of_decide_eq_true h
theorem rg_Dcd {k i : Nat} {v : Int} (h : rg_Dc (k, i, v) = true) : rg_D0 k i = v := by
  unfold rg_Dc at h
  exact of_decide_eq_true h
theorem rg_Pe {k i : Nat} {v : Option Nat} (h : (k, i, v) ∈ rg_PL) : rg_P k i = v := rg_Pcd (rg_Pm _ h)
theorem rg_De {k i : Nat} {v : Int} (h : (k, i, v) ∈ rg_DL) : rg_D0 k i = v := rg_Dcd (rg_Dm _ h)
