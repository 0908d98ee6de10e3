/-! THE REFERENCE's THROWN, exactly -/
theorem hs_mth {M : hzMem} {vs : List Value} {q : Int32} (hO : M[47]? = some (.inr (3, vs))) (h16 : vs[16]? = some (.int q)) : ∃ n, ha_C hx_ext n 221 [.ref 47] M 1 0 = some (some (.int q), M) := by
  have key : ha_RT hx_ext 221 0 [some (.ref 47)] [] M 0 (fun rv M' => rv = some (.int q) ∧ M' = M) := by
    refine ha_RT_sN [1] (pc' := 1) (L' := [some (.ref 47)]) (st' := [.ref 47]) rfl rfl ?_
    refine ha_RT_mem rfl rfl (hm_rd hO h16 _ _) ?_
    show ha_RT hx_ext 221 4 _ _ _ _ _
    exact ha_RT_ret (rv := some (.int q)) rfl rfl rfl rfl ⟨rfl, rfl⟩
  obtain ⟨n, rv, M', h1, rfl, rfl⟩ := key
  exact ⟨n, hm_toC hx_no (q := (hzM[221]?).get rfl) rfl (by decide) h1⟩
