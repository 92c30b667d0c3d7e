def xW : List Cond := lw_tbl.filter goodWord
theorem xW_of {w : Cond} (i : Nat) (h : lw_tbl[i]? = some w) (g : goodWord w = true) : w ∈ xW := List.mem_filter.mpr ⟨List.mem_of_getElem? h, g⟩
theorem xW_good : ∀ w ∈ xW, goodWord w = true := fun w h => (List.mem_filter.mp h).2
theorem xW_in : ∀ w ∈ xW, w ∈ lw_tbl := fun w h => (List.mem_filter.mp h).1
theorem in_Cu : ∀ w ∈ u_ws R_Cu F_Cu 4, w ∈ xW := fun w h => List.mem_filter.mpr ⟨(show ∀ w ∈ u_ws R_Cu F_Cu 4, w ∈ lw_tbl by decide +kernel) w h, (show ∀ w ∈ u_ws R_Cu F_Cu 4, goodWord w = true by decide +kernel) w h⟩
theorem in_Ou : ∀ w ∈ u_ws R_Ou F_Ou 5, w ∈ xW := fun w h => List.mem_filter.mpr ⟨(show ∀ w ∈ u_ws R_Ou F_Ou 5, w ∈ lw_tbl by decide +kernel) w h, (show ∀ w ∈ u_ws R_Ou F_Ou 5, goodWord w = true by decide +kernel) w h⟩
theorem in_Te : ∀ w ∈ u_ws R_Te F_Te 3, w ∈ xW := fun w h => List.mem_filter.mpr ⟨(show ∀ w ∈ u_ws R_Te F_Te 3, w ∈ lw_tbl by decide +kernel) w h, (show ∀ w ∈ u_ws R_Te F_Te 3, goodWord w = true by decide +kernel) w h⟩
theorem in_Wd : ∀ w ∈ u_ws R_Wd F_Wd 5, w ∈ xW := fun w h => List.mem_filter.mpr ⟨(show ∀ w ∈ u_ws R_Wd F_Wd 5, w ∈ lw_tbl by decide +kernel) w h, (show ∀ w ∈ u_ws R_Wd F_Wd 5, goodWord w = true by decide +kernel) w h⟩
theorem in_Mo : ∀ w ∈ u_ws R_Mo F_Mo 18, w ∈ xW := fun w h => List.mem_filter.mpr ⟨(show ∀ w ∈ u_ws R_Mo F_Mo 18, w ∈ lw_tbl by decide +kernel) w h, (show ∀ w ∈ u_ws R_Mo F_Mo 18, goodWord w = true by decide +kernel) w h⟩
