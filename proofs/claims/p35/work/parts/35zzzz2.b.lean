section HR
variable {S T : hp_S} {b c : Nat} {i x : Int32} {k : Nat}
theorem hr_219 (S : hp_S) (x y : Int32) : (hq_219 S x y).toInt = max x.toInt y.toInt := by
  unfold hq_219
  split
  · rename_i h; rw [hr_lt] at h; omega
  · rename_i h; rw [hr_lt] at h; omega
theorem hr_220 (S : hp_S) (x y : Int32) : (hq_220 S x y).toInt = min x.toInt y.toInt := by
  unfold hq_220
  split
  · rename_i h; rw [hr_gt] at h; omega
  · rename_i h; rw [hr_gt] at h; omega
theorem hr_79 (T : hp_S) (x : Int32) (hi : i.toInt = k) : (hz_cmp .ne (hq_79 T x i) 0 = true) = hr_held x k := by
  have e := hr_of hi
  unfold hq_79 hr_held
  rw [← e]
  by_cases q : (x >>> (i &&& 31)) &&& Int32.ofInt 1 = Int32.ofInt 1
  · rw [if_neg (by rw [hr_ne]; exact fun z => z q)]
    exact propext ⟨fun _ => q, fun _ => by decide⟩
  · rw [if_pos (by rw [hr_ne]; exact q)]
    exact propext ⟨fun z => absurd z (by decide), fun z => absurd z q⟩
theorem hr_uself (f : Nat → Int32) (a : Nat) : upd f a (f a) = f := by
  funext j
  unfold upd
  split
  · rename_i h; rw [h]
  · rfl
theorem hr_fin (hE : hr_E S b (T c)) (ho : hr_ok (T c)) (hi : i.toInt = k) (hk : k < 6) (hn : (k : Int) < (T c 0).toInt) {y z : Int32} {T1 : hp_S} (hT : T1 c = upd (T c) (30 + 3 * k) y) (hy : 0 ≤ y.toInt ∧ y.toInt ≤ 20) {g : Nat} (hgn : (g : Int) < (T c 1).toInt) (hgl : hr_lo (T c) g) (hz : z = T c (51 + 4 * g)) (alt : (y = z ∧ ∀ h : Nat, h < g → hr_lo (T c) h → T c (51 + 4 * h) ≠ y) ∨ (y ≠ z ∧ ∀ h : Nat, (h : Int) < (T c 1).toInt → hr_lo (T c) h → T c (51 + 4 * h) ≠ y)) (a d : Int32) :
    hr_E (if hz_cmp .ne y z = true then hp_w S (b + 2) k y else hp_w (hp_w S (b + 2) k y) (b + 7) g i) b (hq_92_82 c i (((T1 c (Int32.ofInt 1).toNatClampNeg).toInt - (Int32.ofInt 0).toInt).toNat + 1) T1 a d (Int32.ofInt 0) c) ∧ hr_ok (hq_92_82 c i (((T1 c (Int32.ofInt 1).toNatClampNeg).toInt - (Int32.ofInt 0).toInt).toNat + 1) T1 a d (Int32.ofInt 0) c) ∧ hr_same (T c) (hq_92_82 c i (((T1 c (Int32.ofInt 1).toNatClampNeg).toInt - (Int32.ofInt 0).toInt).toNat + 1) T1 a d (Int32.ofInt 0) c) := by
  have h8 := ho.1.2.1
  have h6 := ho.1.1
  have op := ho.2.2.1 k hk hn
  obtain ⟨a2, a3, a4, a5⟩ := hE.2.2.1 k hk hn
  have hE1 : hr_E (hp_w S (b + 2) k y) b (T1 c) := by
    rw [hT]
    refine hr_Eper (k := k) hE hk (fun i j hi hj => ?_) (fun j hj => ?_) ⟨?_, ?_, ?_, ?_⟩
    · rw [hr_wb _ _ _ _ _ _ _ (by omega)]
    · rw [hr_ub (by omega)]
    · rw [hr_wc, hr_us]
    · rw [hr_wb _ _ _ _ _ _ _ (by omega)]; exact a3
    · rw [hr_wb _ _ _ _ _ _ _ (by omega), hr_ub (by omega)]; exact a4
    · rw [hr_wb _ _ _ _ _ _ _ (by omega), hr_ub (by omega)]; exact a5
  have ho1 : hr_ok (T1 c) := by
    rw [hT]
    refine hr_okper (k := k) ho hk (fun j hj => ?_) ⟨?_, ?_, ?_⟩
    · rw [hr_ub (by omega)]
    · rw [hr_us]; exact hy
    · rw [hr_ub (by omega)]; exact op.2.1
    · rw [hr_ub (by omega)]; exact op.2.2
  have t1 : T1 c 1 = T c 1 := by rw [hT, hr_ub (by omega)]
  have t0 : T1 c 0 = T c 0 := by rw [hT, hr_ub (by omega)]
  have t5 : T1 c 5 = T c 5 := by rw [hT, hr_ub (by omega)]
  have tp : T1 c (hq_74 T1 i (Int32.ofInt 0)).toNatClampNeg = y := by rw [hr_P0 T1 hi (by omega), hT, hr_us]
  have tl : ∀ h : Nat, (hr_lo (T1 c) h ↔ hr_lo (T c) h) ∧ T1 c (51 + 4 * h) = T c (51 + 4 * h) := fun h => by
    have e1 : T1 c (50 + 4 * h) = T c (50 + 4 * h) := by rw [hT, hr_ub (by omega)]
    have e2 : T1 c (51 + 4 * h) = T c (51 + 4 * h) := by rw [hT, hr_ub (by omega)]
    exact ⟨by unfold hr_lo; rw [e1, e2], e2⟩
  have g8 : g < 8 := by omega
  rcases alt with ⟨hyz, hf⟩ | ⟨hyz, hf⟩
  · rw [if_neg (by rw [hr_ne]; exact fun q => q hyz)]
    rw [hr_82s (T := T1) (c := c) (p := i) (by rw [t1]; exact h8.2) a d (g := g) (by rw [t1]; exact hgn) ((tl g).1.mpr hgl) (by rw [tp, (tl g).2, ← hz, hyz]) (fun h hh hl => by rw [tp, (tl h).2]; exact hf h hh ((tl h).1.mp hl)) _ _ 0 (by decide) (by omega) (by rw [hr_n1', t1, hr_o0]; omega)]
    obtain ⟨e5, e6, e7, e8⟩ := hE1.2.2.2 g g8 (by rw [t1]; exact hgn)
    have o := ho1.2.2.2 g g8 (by rw [t1]; exact hgn)
    have hi9 : i ≠ hr_9 := by
      intro q
      rw [q] at hi
      have h9 : hr_9.toInt = 9 := by decide
      omega
    refine ⟨hr_Ehat (k := g) hE1 (fun i' j hi' hj => ?_) (fun j hj => ?_) ⟨?_, ?_, ?_, fun q => ?_⟩, hr_okhat (k := g) ho1 (fun j hj => ?_) ⟨?_, ?_, Or.inr ?_, fun q => ?_⟩, ?_, ?_, ?_⟩
    · rw [hr_wb _ _ _ _ _ _ _ (by omega)]
    · rw [hr_ub (by omega)]
    · rw [hr_wb _ _ _ _ _ _ _ (by omega), hr_ub (by omega)]; exact e5
    · rw [hr_wb _ _ _ _ _ _ _ (by omega), hr_ub (by omega)]; exact e6
    · rw [hr_wc, hr_us]
    · rw [hr_us] at q; exact absurd q hi9
    · rw [hr_ub (by omega)]
    · rw [hr_ub (by omega)]; exact o.1
    · rw [hr_ub (by omega)]; exact o.2.1
    · rw [hr_us, t0]; omega
    · rw [hr_us] at q; exact absurd q hi9
    · rw [hr_ub (by omega)]; exact t0
    · rw [hr_ub (by omega)]; exact t1
    · rw [hr_ub (by omega)]; exact t5
  · rw [if_pos (by rw [hr_ne]; exact hyz)]
    rw [hr_82n (T := T1) (c := c) (p := i) (by rw [t1]; exact h8.2) a d (fun h hh hl => by rw [t1] at hh; rw [tp, (tl h).2]; exact hf h hh ((tl h).1.mp hl)) _ _ 0 (by decide) (by omega)]
    exact ⟨hE1, ho1, t0, t1, t5⟩
theorem hr_chase (hE : hr_E S b (T c)) (ho : hr_ok (T c)) (hi : i.toInt = k) (hk : k < 6) (hn : (k : Int) < (T c 0).toInt) : hr_E (hq_206 S b i (hq_207 S b (S (b + 2) i.toNatClampNeg))) b (hq_92 T c i c) ∧ hr_ok (hq_92 T c i c) ∧ hr_same (T c) (hq_92 T c i c) := by
  have h8 := ho.1.2.1
  obtain ⟨a2, a3, a4, a5⟩ := hE.2.2.1 k hk hn
  have op := ho.2.2.1 k hk hn
  have eP0 := hr_P0 T hi (by omega)
  rw [hr_nat hi, a2, hr_207 hE ho op.1]
  rcases hr_91 ho op.1 with ⟨e, hno⟩ | ⟨g, hg, hgn, hgl, hg1, hg2⟩
  · have e1 : hq_206 S b i (hq_91 T c (T c (30 + 3 * k))) = S := by
      unfold hq_206
      rw [e, hr_182, if_neg]
      rw [hr_n0]
      intro q
      exact absurd q.1 (by decide)
    have e2 : hq_92 T c i = T := by
      unfold hq_92
      rw [eP0, e, if_pos (by decide)]
      exact hr_82n h8.2 _ _ (fun h hh hl => absurd hl (hno h hh)) _ _ 0 (by decide) (by omega)
    rw [e1, e2]
    exact ⟨hE, ho, hr_sr _⟩
  · have g8 : g < 8 := by omega
    obtain ⟨e5, e6, e7, e8⟩ := hE.2.2.2 g g8 hgn
    have e8 := e8 hgl.1
    have oz := hr_lb ho g8 hgn hgl
    have d72 := hr_72 T (x := T c (30 + 3 * k)) (y := T c (51 + 4 * g)) (by omega) (by omega)
    have esub : (T c (51 + 4 * g) - T c (30 + 3 * k)).toInt = (T c (51 + 4 * g)).toInt - (T c (30 + 3 * k)).toInt := hp_sub (by omega) (by omega)
    -- the class's side
    have ec : ∀ pc y : Int32, S (b + 3) k = pc → T c (30 + 3 * k) + hq_219 S (-pc) (hq_220 S pc (T c (51 + 4 * g) - T c (30 + 3 * k))) = y → hq_206 S b i (hq_91 T c (T c (30 + 3 * k))) = (if hz_cmp .ne y (T c (51 + 4 * g)) = true then hp_w S (b + 2) k y else hp_w (hp_w S (b + 2) k y) (b + 7) g i) := by
      intro pc y hpc hy
      unfold hq_206
      rw [hr_182, if_pos (by rw [hr_n0, hE.1.2.1]; omega), hr_nat hg, hr_nat hi, a2, hpc, e8, hy, hr_wc, hr_wb _ _ _ _ _ _ _ (by omega), e8]
    by_cases hh : hr_held (T c 5) k
    · have hy : T c (30 + 3 * k) + hq_219 S (-(Int32.ofInt 0)) (hq_220 S (Int32.ofInt 0) (T c (51 + 4 * g) - T c (30 + 3 * k))) = T c (30 + 3 * k) := by
        apply Int32.toInt_inj.mp
        have e0 : (-(Int32.ofInt 0)).toInt = 0 := by decide
        have : (hq_219 S (-(Int32.ofInt 0)) (hq_220 S (Int32.ofInt 0) (T c (51 + 4 * g) - T c (30 + 3 * k)))).toInt = 0 := by rw [hr_219, hr_220, e0, hr_o0]; omega
        rw [hp_add (by omega) (by omega)]
        omega
      rw [ec _ _ (a3 hh) hy]
      have e92 : hq_92 T c i = hq_92_82 c i (((T c (Int32.ofInt 1).toNatClampNeg).toInt - (Int32.ofInt 0).toInt).toNat + 1) T (T c (30 + 3 * k)) (hq_91 T c (T c (30 + 3 * k))) (Int32.ofInt 0) := by
        unfold hq_92
        rw [eP0, if_neg (by rw [hr_lt, hr_0]; omega), hr_n5', if_pos (by rw [hr_79 T _ hi]; exact hh)]
      rw [e92]
      refine hr_fin hE ho hi hk hn (hr_uself _ _).symm op.1 hgn hgl rfl ?_ _ _
      by_cases q : T c (30 + 3 * k) = T c (51 + 4 * g)
      · refine Or.inl ⟨q, fun h hh hl z => ?_⟩
        have := hg2 h hh hl
        unfold hr_D at this
        rw [z] at this
        omega
      · refine Or.inr ⟨q, fun h hh hl z => ?_⟩
        have := hg1 h hh hl
        have q' : (T c (30 + 3 * k)).toInt ≠ (T c (51 + 4 * g)).toInt := fun w => q (Int32.toInt_inj.mp w)
        unfold hr_D at this
        rw [z] at this
        omega
    · have hs := op.2.1
      have e71 : (hq_71 T (hq_72 T (T c (30 + 3 * k)) (T c (51 + 4 * g))) (T c (31 + 3 * k))).toInt = min (max ((T c (30 + 3 * k)).toInt - (T c (51 + 4 * g)).toInt) ((T c (51 + 4 * g)).toInt - (T c (30 + 3 * k)).toInt)) (T c (31 + 3 * k)).toInt := by rw [hr_71, d72]
      have ev : (hq_219 S (-(T c (31 + 3 * k))) (hq_220 S (T c (31 + 3 * k)) (T c (51 + 4 * g) - T c (30 + 3 * k)))).toInt = max (-(T c (31 + 3 * k)).toInt) (min (T c (31 + 3 * k)).toInt ((T c (51 + 4 * g)).toInt - (T c (30 + 3 * k)).toInt)) := by rw [hr_219, hr_220, hr_neg (by omega), esub]
      have ey : (T c (30 + 3 * k) + hq_219 S (-(T c (31 + 3 * k))) (hq_220 S (T c (31 + 3 * k)) (T c (51 + 4 * g) - T c (30 + 3 * k)))).toInt = (T c (30 + 3 * k)).toInt + max (-(T c (31 + 3 * k)).toInt) (min (T c (31 + 3 * k)).toInt ((T c (51 + 4 * g)).toInt - (T c (30 + 3 * k)).toInt)) := by rw [hp_add (by omega) (by omega), ev]
      rw [ec _ _ (a4 hh) rfl]
      have key : ∀ y : Int32, (T c (30 + 3 * k) + hq_219 S (-(T c (31 + 3 * k))) (hq_220 S (T c (31 + 3 * k)) (T c (51 + 4 * g) - T c (30 + 3 * k)))).toInt = y.toInt → hr_E (if hz_cmp .ne (T c (30 + 3 * k) + hq_219 S (-(T c (31 + 3 * k))) (hq_220 S (T c (31 + 3 * k)) (T c (51 + 4 * g) - T c (30 + 3 * k)))) (T c (51 + 4 * g)) = true then hp_w S (b + 2) k (T c (30 + 3 * k) + hq_219 S (-(T c (31 + 3 * k))) (hq_220 S (T c (31 + 3 * k)) (T c (51 + 4 * g) - T c (30 + 3 * k)))) else hp_w (hp_w S (b + 2) k (T c (30 + 3 * k) + hq_219 S (-(T c (31 + 3 * k))) (hq_220 S (T c (31 + 3 * k)) (T c (51 + 4 * g) - T c (30 + 3 * k))))) (b + 7) g i) b (hq_92_82 c i ((((hp_wg 80 T c (hq_74 T i (Int32.ofInt 0)) y) c (Int32.ofInt 1).toNatClampNeg).toInt - (Int32.ofInt 0).toInt).toNat + 1) (hp_wg 80 T c (hq_74 T i (Int32.ofInt 0)) y) (T c (30 + 3 * k)) (hq_91 T c (T c (30 + 3 * k))) (Int32.ofInt 0) c) ∧ hr_ok (hq_92_82 c i ((((hp_wg 80 T c (hq_74 T i (Int32.ofInt 0)) y) c (Int32.ofInt 1).toNatClampNeg).toInt - (Int32.ofInt 0).toInt).toNat + 1) (hp_wg 80 T c (hq_74 T i (Int32.ofInt 0)) y) (T c (30 + 3 * k)) (hq_91 T c (T c (30 + 3 * k))) (Int32.ofInt 0) c) ∧ hr_same (T c) (hq_92_82 c i ((((hp_wg 80 T c (hq_74 T i (Int32.ofInt 0)) y) c (Int32.ofInt 1).toNatClampNeg).toInt - (Int32.ofInt 0).toInt).toNat + 1) (hp_wg 80 T c (hq_74 T i (Int32.ofInt 0)) y) (T c (30 + 3 * k)) (hq_91 T c (T c (30 + 3 * k))) (Int32.ofInt 0) c) := by
        intro y hy
        have hyy := Int32.toInt_inj.mp hy
        rw [hyy]
        rw [ey] at hy
        have hw : hp_wg 80 T c (hq_74 T i (Int32.ofInt 0)) y c = upd (T c) (30 + 3 * k) y := hr_wgs T c (by rw [hr_P T hi (by omega) (show _ = (0 : Int) by decide) (by omega)]; omega) (by omega)
        refine hr_fin hE ho hi hk hn hw (by omega) hgn hgl rfl ?_ _ _
        by_cases q : y = T c (51 + 4 * g)
        · refine Or.inl ⟨q, fun h hh hl z => ?_⟩
          have := hg2 h hh hl
          unfold hr_D at this
          rw [z, q] at this
          omega
        · refine Or.inr ⟨q, fun h hh hl z => ?_⟩
          have := hg1 h hh hl
          have q' : y.toInt ≠ (T c (51 + 4 * g)).toInt := fun w => q (Int32.toInt_inj.mp w)
          unfold hr_D at this
          rw [z] at this
          omega
      have hx := op.1
      by_cases hle : hz_cmp .le (T c (51 + 4 * g)) (T c (30 + 3 * k)) = true
      · have e92 : hq_92 T c i = hq_92_82 c i ((((hp_wg 80 T c (hq_74 T i (Int32.ofInt 0)) (T c (30 + 3 * k) - hq_71 T (hq_72 T (T c (30 + 3 * k)) (T c (51 + 4 * g))) (T c (31 + 3 * k)))) c (Int32.ofInt 1).toNatClampNeg).toInt - (Int32.ofInt 0).toInt).toNat + 1) (hp_wg 80 T c (hq_74 T i (Int32.ofInt 0)) (T c (30 + 3 * k) - hq_71 T (hq_72 T (T c (30 + 3 * k)) (T c (51 + 4 * g))) (T c (31 + 3 * k)))) (T c (30 + 3 * k)) (hq_91 T c (T c (30 + 3 * k))) (Int32.ofInt 0) := by
          unfold hq_92
          rw [eP0, if_neg (by rw [hr_lt, hr_0]; omega), hr_n5', if_neg (by rw [hr_79 T _ hi]; exact hh), hr_H3 T hg g8, hr_P1 T hi (by omega), if_pos hle]
        rw [e92]
        rw [hr_le] at hle
        refine key _ ?_
        rw [ey, hp_sub (by omega) (by omega), e71]
        omega
      · have e92 : hq_92 T c i = hq_92_82 c i ((((hp_wg 80 T c (hq_74 T i (Int32.ofInt 0)) (T c (30 + 3 * k) + hq_71 T (hq_72 T (T c (30 + 3 * k)) (T c (51 + 4 * g))) (T c (31 + 3 * k)))) c (Int32.ofInt 1).toNatClampNeg).toInt - (Int32.ofInt 0).toInt).toNat + 1) (hp_wg 80 T c (hq_74 T i (Int32.ofInt 0)) (T c (30 + 3 * k) + hq_71 T (hq_72 T (T c (30 + 3 * k)) (T c (51 + 4 * g))) (T c (31 + 3 * k)))) (T c (30 + 3 * k)) (hq_91 T c (T c (30 + 3 * k))) (Int32.ofInt 0) := by
          unfold hq_92
          rw [eP0, if_neg (by rw [hr_lt, hr_0]; omega), hr_n5', if_neg (by rw [hr_79 T _ hi]; exact hh), hr_H3 T hg g8, hr_P1 T hi (by omega), if_neg hle]
        rw [e92]
        rw [hr_le] at hle
        refine key _ ?_
        rw [ey, hp_add (by omega) (by omega), e71]
        omega
end HR

section HR
variable {S T : hp_S} {b c : Nat} {i x : Int32} {k : Nat}
/-- those who are bare run -/
theorem hr_l3 (b c : Nat) : ∀ (m : Nat) (S T : hp_S) (i : Int32) (k : Nat), hr_E S b (T c) → hr_ok (T c) → i.toInt = k → k ≤ 6 → hr_E (hq_201_64 b m S i) b (hq_93_142 c (Int32.ofInt 0) m T i c) ∧ hr_ok (hq_93_142 c (Int32.ofInt 0) m T i c) ∧ hr_same (T c) (hq_93_142 c (Int32.ofInt 0) m T i c) := by
  intro m
  induction m with
  | zero => intro S T i k hE ho _ _; exact ⟨hE, ho, hr_sr _⟩
  | succ m ih =>
    intro S T i k hE ho hi hk
    have h6 := ho.1.1
    rw [hq_201_64, hq_93_142, hr_n0', hE.1.1]
    by_cases h : hz_cmp .ge i (T c 0) = true
    · rw [if_pos h, if_pos h]; exact ⟨hE, ho, hr_sr _⟩
    · rw [if_neg h, if_neg h]
      rw [hr_ge] at h
      have hk' : k < 6 := by omega
      have hn : (k : Int) < (T c 0).toInt := by omega
      have hup := hr_up hi (by omega)
      rw [hr_188 hE ho]
      by_cases hb : hq_88 T c i = hr_9
      · rw [if_neg (by rw [hr_e0]; exact fun q => q hb), if_neg (by rw [hr_ne]; exact fun q => q hb)]
        have hc := hr_chase hE ho hi hk' hn
        exact hr_a3 (ih _ _ _ (k + 1) hc.1 hc.2.1 hup hk') hc.2.2
      · rw [if_pos (by rw [hr_e0]; exact hb), if_pos (by rw [hr_ne]; exact hb)]
        exact ih S T _ (k + 1) hE ho hup hk'
/-- the clock alone changed -/
theorem hr_Eclk {S S' : hp_S} {b : Nat} {f f' : Nat → Int32} (hE : hr_E S b f) (hS : ∀ i j : Nat, i ≤ 8 → (i ≠ 0 ∨ (j ≠ 2 ∧ j ≠ 3)) → S' (b + i) j = S (b + i) j) (hf : ∀ j : Nat, j ≠ 2 → j ≠ 3 → f' j = f j) (h2 : S' b 2 = f' 2) (h3 : S' b 3 = f' 3) : hr_E S' b f' := by
  obtain ⟨⟨e1, e2, e3, e4, e5⟩, ew, ep, eh⟩ := hE
  have hS0 : ∀ j : Nat, j ≠ 2 → j ≠ 3 → S' b j = S b j := fun j a c => hS 0 j (by omega) (Or.inr ⟨a, c⟩)
  refine ⟨⟨?_, ?_, h2, h3, ?_⟩, fun h hh => ?_, fun p h6 hp => ?_, fun h h8 hh => ?_⟩
  · rw [hS0 4 (by omega) (by omega), hf 0 (by omega) (by omega)]; exact e1
  · rw [hS0 8 (by omega) (by omega), hf 1 (by omega) (by omega)]; exact e2
  · rw [hS0 1 (by omega) (by omega), hf 4 (by omega) (by omega)]; exact e5
  · rw [hS 1 h (by omega) (Or.inl (by omega)), hf (6 + h) (by omega) (by omega)]; exact ew h hh
  · rw [hf 0 (by omega) (by omega)] at hp
    rw [hS 2 p (by omega) (Or.inl (by omega)), hS 3 p (by omega) (Or.inl (by omega)), hS 4 p (by omega) (Or.inl (by omega)), hf 5 (by omega) (by omega), hf (30 + 3 * p) (by omega) (by omega), hf (31 + 3 * p) (by omega) (by omega), hf (32 + 3 * p) (by omega) (by omega)]
    exact ep p h6 hp
  · rw [hf 1 (by omega) (by omega)] at hh
    rw [hS 5 h (by omega) (Or.inl (by omega)), hS 6 h (by omega) (Or.inl (by omega)), hS 7 h (by omega) (Or.inl (by omega)), hS 8 h (by omega) (Or.inl (by omega)), hf (48 + 4 * h) (by omega) (by omega), hf (49 + 4 * h) (by omega) (by omega), hf (50 + 4 * h) (by omega) (by omega), hf (51 + 4 * h) (by omega) (by omega)]
    exact eh h h8 hh
theorem hr_okclk {f f' : Nat → Int32} (ho : hr_ok f) (hf : ∀ j : Nat, j ≠ 2 → j ≠ 3 → f' j = f j) (h2 : 0 ≤ (f' 2).toInt ∧ (f' 2).toInt ≤ 23) : hr_ok f' := by
  obtain ⟨⟨o0, o1, o2, o3⟩, ow, op, oh⟩ := ho
  refine ⟨⟨?_, ?_, h2, trivial⟩, fun h hh => ?_, fun p h6 hp => ?_, fun h h8 hh => ?_⟩
  · rw [hf 0 (by omega) (by omega)]; exact o0
  · rw [hf 1 (by omega) (by omega)]; exact o1
  · rw [hf (6 + h) (by omega) (by omega)]; exact ow h hh
  · rw [hf 0 (by omega) (by omega)] at hp
    rw [hf (30 + 3 * p) (by omega) (by omega), hf (31 + 3 * p) (by omega) (by omega), hf (32 + 3 * p) (by omega) (by omega)]
    exact op p h6 hp
  · rw [hf 1 (by omega) (by omega)] at hh
    rw [hf 0 (by omega) (by omega), hf (48 + 4 * h) (by omega) (by omega), hf (49 + 4 * h) (by omega) (by omega), hf (50 + 4 * h) (by omega) (by omega), hf (51 + 4 * h) (by omega) (by omega)]
    exact oh h h8 hh
theorem hr_w0 (S : hp_S) (b : Nat) (k : Nat) (v : Int32) (j l : Nat) (h : j ≠ 0 ∨ l ≠ k) : hp_w S b k v (b + j) l = S (b + j) l := hr_wb S b 0 k v j l h
theorem hr_w0' (S : hp_S) (b : Nat) (k : Nat) (v : Int32) (l : Nat) (h : l ≠ k) : hp_w S b k v b l = S b l := hr_wb S b 0 k v 0 l (Or.inr h)
theorem hr_w0s (S : hp_S) (b : Nat) (k : Nat) (v : Int32) : hp_w S b k v b k = v := hr_wc S b 0 k v
theorem hr_clock (hE : hr_E S b (T c)) (ho : hr_ok (T c)) : hr_E (hq_202 S b) b (hq_93_170 c (Int32.ofInt 0) T c) ∧ hr_ok (hq_93_170 c (Int32.ofInt 0) T c) ∧ hr_same (T c) (hq_93_170 c (Int32.ofInt 0) T c) := by
  have h2 := ho.1.2.2.1
  obtain ⟨n, hn, e2⟩ := hr_nz (n := 23) h2.1 h2.2
  have cls : hq_202 S b = (if n = 23 then hp_w (hp_w (hp_w S b 2 (Int32.ofInt n + Int32.ofInt 1)) b 2 (Int32.ofInt 0)) b 3 (S b 3 + Int32.ofInt 1) else hp_w S b 2 (Int32.ofInt n + Int32.ofInt 1)) := by
    have d : ∀ n ≤ 23, (hz_cmp .lt (Int32.ofInt (n : Nat) + Int32.ofInt 1) (Int32.ofInt 24) = true) = ¬ (n = 23) := by decide
    unfold hq_202
    rw [hr_w0s, hE.1.2.2.1, e2]
    by_cases q : n = 23
    · rw [if_neg (by rw [d n hn]; exact fun z => z q), if_pos q, hr_w0' _ _ _ _ _ (by omega), hr_w0' _ _ _ _ _ (by omega)]
    · rw [if_pos (by rw [d n hn]; exact q), if_neg q]
  have wr : ∀ (T : hp_S) (v : Int32), hp_wg 80 T c (Int32.ofInt 2) v = hp_w T c 2 v := fun T v => hr_wg T c (show _ = ((2 : Nat) : Int) by decide) (by omega)
  have wr3 : ∀ (T : hp_S) (v : Int32), hp_wg 80 T c (Int32.ofInt 3) v = hp_w T c 3 v := fun T v => hr_wg T c (show _ = ((3 : Nat) : Int) by decide) (by omega)
  have rf : hq_93_170 c (Int32.ofInt 0) T = (if n = 23 then hp_w (hp_w T c 2 (Int32.ofInt 0)) c 3 (T c 3 + Int32.ofInt 1) else hp_w (hp_w T c 2 (Int32.ofInt n + Int32.ofInt 1)) c 3 (T c 3 + Int32.ofInt 0)) := by
    have d : ∀ n ≤ 23, (Int32.ofInt (n : Nat) + Int32.ofInt 1) - (Int32.ofInt (n : Nat) + Int32.ofInt 1) / Int32.ofInt 24 * Int32.ofInt 24 = if n = 23 then Int32.ofInt 0 else Int32.ofInt n + Int32.ofInt 1 := by decide +kernel
    have d2 : ∀ n ≤ 23, (hz_cmp .ne (if n = 23 then Int32.ofInt 0 else Int32.ofInt (n : Nat) + Int32.ofInt 1) 0 = true) = ¬ (n = 23) := by decide +kernel
    unfold hq_93_170
    rw [hr_n2', hr_n3', e2, d n hn, wr, wr3, wr3, hr_w0s, hr_w0' _ _ _ _ _ (by omega)]
    by_cases q : n = 23
    · rw [if_neg (by rw [d2 n hn]; exact fun z => z q), if_pos q, if_pos q]
    · rw [if_pos (by rw [d2 n hn]; exact q), if_neg q, if_neg q]
  rw [cls, rf]
  by_cases q : n = 23
  · rw [if_pos q, if_pos q]
    refine ⟨hr_Eclk hE (fun i j hi hj => ?_) (fun j j2 j3 => ?_) ?_ ?_, hr_okclk ho (fun j j2 j3 => ?_) ?_, by rw [hr_w0' _ _ _ _ _ (by omega), hr_w0' _ _ _ _ _ (by omega)], by rw [hr_w0' _ _ _ _ _ (by omega), hr_w0' _ _ _ _ _ (by omega)], by rw [hr_w0' _ _ _ _ _ (by omega), hr_w0' _ _ _ _ _ (by omega)]⟩
    · rw [hr_w0 _ _ _ _ _ _ (by omega), hr_w0 _ _ _ _ _ _ (by omega), hr_w0 _ _ _ _ _ _ (by omega)]
    · rw [hr_w0' _ _ _ _ _ j3, hr_w0' _ _ _ _ _ j2]
    · rw [hr_w0' _ _ _ _ _ (by omega), hr_w0s, hr_w0' _ _ _ _ _ (by omega), hr_w0s]
    · rw [hr_w0s, hr_w0s, hE.1.2.2.2.1]
    · rw [hr_w0' _ _ _ _ _ j3, hr_w0' _ _ _ _ _ j2]
    · rw [hr_w0' _ _ _ _ _ (by omega), hr_w0s]; decide
  · rw [if_neg q, if_neg q]
    refine ⟨hr_Eclk hE (fun i j hi hj => ?_) (fun j j2 j3 => ?_) ?_ ?_, hr_okclk ho (fun j j2 j3 => ?_) ?_, by rw [hr_w0' _ _ _ _ _ (by omega), hr_w0' _ _ _ _ _ (by omega)], by rw [hr_w0' _ _ _ _ _ (by omega), hr_w0' _ _ _ _ _ (by omega)], by rw [hr_w0' _ _ _ _ _ (by omega), hr_w0' _ _ _ _ _ (by omega)]⟩
    · rw [hr_w0 _ _ _ _ _ _ (by omega)]
    · rw [hr_w0' _ _ _ _ _ j3, hr_w0' _ _ _ _ _ j2]
    · rw [hr_w0s, hr_w0' _ _ _ _ _ (by omega), hr_w0s]
    · rw [hr_w0' _ _ _ _ _ (by omega), hr_w0s, hr_p0, hE.1.2.2.2.1]
    · rw [hr_w0' _ _ _ _ _ j3, hr_w0' _ _ _ _ _ j2]
    · rw [hr_w0' _ _ _ _ _ (by omega), hr_w0s]
      have d : ∀ n < 23, 0 ≤ (Int32.ofInt (n : Nat) + Int32.ofInt 1).toInt ∧ (Int32.ofInt (n : Nat) + Int32.ofInt 1).toInt ≤ 23 := by decide
      exact d n (by omega)
/-- AN HOUR -/
theorem hr_hour (hE : hr_E S b (T c)) (ho : hr_ok (T c)) : hr_E (hq_201 S b) b (hq_93 T c (Int32.ofInt 0) c) ∧ hr_ok (hq_93 T c (Int32.ofInt 0) c) ∧ hr_same (T c) (hq_93 T c (Int32.ofInt 0) c) := by
  unfold hq_201 hq_93
  rw [hr_n1', hE.1.2.1]
  obtain ⟨E1, o1, s1⟩ := hr_l1 b c (((T c 1).toInt - (Int32.ofInt 0).toInt).toNat + 1) S T (Int32.ofInt 0) 0 hE ho (by decide) (by omega)
  generalize hq_201_2 b (((T c 1).toInt - (Int32.ofInt 0).toInt).toNat + 1) S (Int32.ofInt 0) = S1 at *
  generalize hq_93_2 c (Int32.ofInt 0) (((T c 1).toInt - (Int32.ofInt 0).toInt).toNat + 1) T (Int32.ofInt 0) = T1 at *
  unfold hq_201_21 hq_93_80
  rw [hr_n1', E1.1.2.1]
  obtain ⟨E2, o2, s2⟩ := hr_l2 b c (((T1 c 1).toInt - (Int32.ofInt 0).toInt).toNat + 1) S1 T1 (Int32.ofInt 0) 0 E1 o1 (by decide) (by omega)
  generalize hq_201_23 b (((T1 c 1).toInt - (Int32.ofInt 0).toInt).toNat + 1) S1 (Int32.ofInt 0) = S2 at *
  generalize hq_93_82 c (Int32.ofInt 0) (((T1 c 1).toInt - (Int32.ofInt 0).toInt).toNat + 1) T1 (Int32.ofInt 0) = T2 at *
  unfold hq_201_62 hq_93_140
  rw [hr_n0', E2.1.1]
  obtain ⟨E3, o3, s3⟩ := hr_l3 b c (((T2 c 0).toInt - (Int32.ofInt 0).toInt).toNat + 1) S2 T2 (Int32.ofInt 0) 0 E2 o2 (by decide) (by omega)
  generalize hq_201_64 b (((T2 c 0).toInt - (Int32.ofInt 0).toInt).toNat + 1) S2 (Int32.ofInt 0) = S3 at *
  generalize hq_93_142 c (Int32.ofInt 0) (((T2 c 0).toInt - (Int32.ofInt 0).toInt).toNat + 1) T2 (Int32.ofInt 0) = T3 at *
  exact hr_a3 (hr_a3 (hr_a3 (hr_clock E3 o3) s3) s2) s1
theorem hr_hours (n : Int32) : ∀ (m : Nat) (S T : hp_S) (i : Int32), hr_E S b (T c) → hr_ok (T c) → hr_E (hq_200_2 b n m S i) b (hq_94_2 c n m T i c) ∧ hr_ok (hq_94_2 c n m T i c) ∧ hr_same (T c) (hq_94_2 c n m T i c) := by
  intro m
  induction m with
  | zero => intro S T i hE ho; exact ⟨hE, ho, hr_sr _⟩
  | succ m ih =>
    intro S T i hE ho
    rw [hq_200_2, hq_94_2]
    split
    · exact ⟨hE, ho, hr_sr _⟩
    · have h := hr_hour hE ho
      exact hr_a3 (ih _ _ _ h.1 h.2.1) h.2.2
theorem hr_199l (n : Int32) : ∀ (m : Nat) (S : hp_S) (i : Int32), hq_199_37 b n m S i = hq_200_2 b n m S i := by
  intro m
  induction m with
  | zero => intros; rfl
  | succ m ih =>
    intro S i
    rw [hq_199_37, hq_200_2, ih]
theorem hr_200 (n : Int32) (hE : hr_E S b (T c)) (ho : hr_ok (T c)) : hr_E (hq_200 S b n) b (hq_94 T c n c) ∧ hr_ok (hq_94 T c n c) ∧ hr_same (T c) (hq_94 T c n c) := hr_hours n _ S T _ hE ho
/-! who is bare, what is lost: sets of bits -/
theorem hr_or0 (x : Int32) : x ||| Int32.ofInt 0 = x := by
  rw [show Int32.ofInt 0 = 0 from by decide]
  exact Int32.or_zero
theorem hr_189l (hE : hr_E S b (T c)) (ho : hr_ok (T c)) : ∀ (m : Nat) (v i : Int32), hq_189_4 b m S v i = hq_96_4 c m T v i := by
  intro m
  induction m with
  | zero => intros; rfl
  | succ m ih =>
    intro v i
    rw [hq_189_4, hq_96_4, hr_n0', hE.1.1, hr_188 hE ho, hr_or0]
    by_cases h : hz_cmp .ge i (T c 0) = true
    · rw [if_pos h, if_pos h]
    · rw [if_neg h, if_neg h]
      by_cases hb : hq_88 T c i = hr_9
      · rw [if_neg (by rw [hr_e0]; exact fun q => q hb), if_neg (by rw [hr_ne]; exact fun q => q hb)]
        exact ih _ _
      · rw [if_pos (by rw [hr_e0]; exact hb), if_pos (by rw [hr_ne]; exact hb)]
        exact ih _ _
theorem hr_189 (hE : hr_E S b (T c)) (ho : hr_ok (T c)) : hq_189 S b = hq_96 T c := by
  unfold hq_189 hq_96
  rw [hr_n0', hE.1.1]
  exact hr_189l hE ho _ _ _
theorem hr_190l (hE : hr_E S b (T c)) (ho : hr_ok (T c)) : ∀ (m : Nat) (v i : Int32) (k : Nat), i.toInt = k → k ≤ 8 → hq_190_4 b m S v i = hq_98_4 c m T v i := by
  intro m
  induction m with
  | zero => intros; rfl
  | succ m ih =>
    intro v i k hi hk
    have h8 := ho.1.2.1
    rw [hq_190_4, hq_98_4, hr_n1', hE.1.2.1, hr_or0]
    by_cases h : hz_cmp .ge i (T c 1) = true
    · rw [if_pos h, if_pos h]
    · rw [if_neg h, if_neg h]
      rw [hr_ge] at h
      have hk' : k < 8 := by omega
      have hup := hr_up hi (by omega)
      rw [hr_185e hE hi hk' (by omega)]
      split
      · exact ih _ _ (k + 1) hup hk'
      · exact ih _ _ (k + 1) hup hk'
theorem hr_190 (hE : hr_E S b (T c)) (ho : hr_ok (T c)) : hq_190 S b = hq_98 T c := by
  unfold hq_190 hq_98
  rw [hr_n1', hE.1.2.1]
  exact hr_190l hE ho _ _ _ 0 (by decide) (by omega)
end HR

section HR
variable {S T : hp_S} {b c : Nat} {i x : Int32} {k : Nat}
theorem hr_wz (S : hp_S) (b a : Nat) (k : Nat) (v : Int32) (l : Nat) (h : a ≠ 0) : hp_w S (b + a) k v b l = S b l := hr_wb S b a k v 0 l (Or.inl (fun q => h q.symm))
/-! rows: one thing changed -/
theorem hr_Ewind {f : Nat → Int32} (hE : hr_E S b f) {h : Nat} (hh : h < 24) (v : Int32) : hr_E (hp_w S (b + 1) h v) b (upd f (6 + h) v) := by
  obtain ⟨⟨e1, e2, e3, e4, e5⟩, ew, ep, eh⟩ := hE
  refine ⟨⟨?_, ?_, ?_, ?_, ?_⟩, fun j hj => ?_, fun p h6 hp => ?_, fun j h8 hj => ?_⟩
  · rw [hr_wz _ _ _ _ _ _ (by omega), hr_ub (by omega)]; exact e1
  · rw [hr_wz _ _ _ _ _ _ (by omega), hr_ub (by omega)]; exact e2
  · rw [hr_wz _ _ _ _ _ _ (by omega), hr_ub (by omega)]; exact e3
  · rw [hr_wz _ _ _ _ _ _ (by omega), hr_ub (by omega)]; exact e4
  · rw [hr_wz _ _ _ _ _ _ (by omega), hr_ub (by omega)]; exact e5
  · by_cases q : j = h
    · subst q; rw [hr_wc, hr_us]
    · rw [hr_wb _ _ _ _ _ _ _ (by omega), hr_ub (by omega)]; exact ew j hj
  · rw [hr_ub (by omega)] at hp
    rw [hr_wb _ _ _ _ _ _ _ (by omega), hr_wb _ _ _ _ _ _ _ (by omega), hr_wb _ _ _ _ _ _ _ (by omega), hr_ub (by omega), hr_ub (by omega), hr_ub (by omega), hr_ub (by omega)]
    exact ep p h6 hp
  · rw [hr_ub (by omega)] at hj
    rw [hr_wb _ _ _ _ _ _ _ (by omega), hr_wb _ _ _ _ _ _ _ (by omega), hr_wb _ _ _ _ _ _ _ (by omega), hr_wb _ _ _ _ _ _ _ (by omega), hr_ub (by omega), hr_ub (by omega), hr_ub (by omega), hr_ub (by omega)]
    exact eh j h8 hj
theorem hr_okwind {f : Nat → Int32} (ho : hr_ok f) {h : Nat} (hh : h < 24) {v : Int32} (hv : 0 ≤ v.toInt ∧ v.toInt ≤ 9) : hr_ok (upd f (6 + h) v) := by
  obtain ⟨⟨o0, o1, o2, o3⟩, ow, op, oh⟩ := ho
  refine ⟨⟨?_, ?_, ?_, trivial⟩, fun j hj => ?_, fun p h6 hp => ?_, fun j h8 hj => ?_⟩
  · rw [hr_ub (by omega)]; exact o0
  · rw [hr_ub (by omega)]; exact o1
  · rw [hr_ub (by omega)]; exact o2
  · by_cases q : j = h
    · subst q; rw [hr_us]; exact hv
    · rw [hr_ub (by omega)]; exact ow j hj
  · rw [hr_ub (by omega)] at hp
    rw [hr_ub (by omega), hr_ub (by omega), hr_ub (by omega)]
    exact op p h6 hp
  · rw [hr_ub (by omega)] at hj
    rw [hr_ub (by omega), hr_ub (by omega), hr_ub (by omega), hr_ub (by omega), hr_ub (by omega)]
    exact oh j h8 hj
theorem hr_Elee {f : Nat → Int32} (hE : hr_E S b f) (v : Int32) : hr_E (hp_w S b 1 v) b (upd f 4 v) := by
  obtain ⟨⟨e1, e2, e3, e4, e5⟩, ew, ep, eh⟩ := hE
  refine ⟨⟨?_, ?_, ?_, ?_, ?_⟩, fun j hj => ?_, fun p h6 hp => ?_, fun j h8 hj => ?_⟩
  · rw [hr_w0' _ _ _ _ _ (by omega), hr_ub (by omega)]; exact e1
  · rw [hr_w0' _ _ _ _ _ (by omega), hr_ub (by omega)]; exact e2
  · rw [hr_w0' _ _ _ _ _ (by omega), hr_ub (by omega)]; exact e3
  · rw [hr_w0' _ _ _ _ _ (by omega), hr_ub (by omega)]; exact e4
  · rw [hr_w0s, hr_us]
  · rw [hr_w0 _ _ _ _ _ _ (by omega), hr_ub (by omega)]; exact ew j hj
  · rw [hr_ub (by omega)] at hp
    rw [hr_w0 _ _ _ _ _ _ (by omega), hr_w0 _ _ _ _ _ _ (by omega), hr_w0 _ _ _ _ _ _ (by omega), hr_ub (by omega), hr_ub (by omega), hr_ub (by omega), hr_ub (by omega)]
    exact ep p h6 hp
  · rw [hr_ub (by omega)] at hj
    rw [hr_w0 _ _ _ _ _ _ (by omega), hr_w0 _ _ _ _ _ _ (by omega), hr_w0 _ _ _ _ _ _ (by omega), hr_w0 _ _ _ _ _ _ (by omega), hr_ub (by omega), hr_ub (by omega), hr_ub (by omega), hr_ub (by omega)]
    exact eh j h8 hj
theorem hr_oklee {f : Nat → Int32} (ho : hr_ok f) (v : Int32) : hr_ok (upd f 4 v) := by
  obtain ⟨⟨o0, o1, o2, o3⟩, ow, op, oh⟩ := ho
  refine ⟨⟨?_, ?_, ?_, trivial⟩, fun j hj => ?_, fun p h6 hp => ?_, fun j h8 hj => ?_⟩
  · rw [hr_ub (by omega)]; exact o0
  · rw [hr_ub (by omega)]; exact o1
  · rw [hr_ub (by omega)]; exact o2
  · rw [hr_ub (by omega)]; exact ow j hj
  · rw [hr_ub (by omega)] at hp
    rw [hr_ub (by omega), hr_ub (by omega), hr_ub (by omega)]
    exact op p h6 hp
  · rw [hr_ub (by omega)] at hj
    rw [hr_ub (by omega), hr_ub (by omega), hr_ub (by omega), hr_ub (by omega), hr_ub (by omega)]
    exact oh j h8 hj
theorem hr_Epins {f : Nat → Int32} (hE : hr_E S b f) {p : Nat} (hp : p < 6) (hn : (p : Int) < (f 0).toInt) (v : Int32) : hr_E (hp_w S (b + 4) p v) b (upd f (32 + 3 * p) v) := by
  obtain ⟨a2, a3, a4, a5⟩ := hE.2.2.1 p hp hn
  refine hr_Eper (k := p) hE hp (fun i j hi hj => ?_) (fun j hj => ?_) ⟨?_, ?_, ?_, ?_⟩
  · rw [hr_wb _ _ _ _ _ _ _ (by omega)]
  · rw [hr_ub (by omega)]
  · rw [hr_wb _ _ _ _ _ _ _ (by omega), hr_ub (by omega)]; exact a2
  · rw [hr_wb _ _ _ _ _ _ _ (by omega)]; exact a3
  · rw [hr_wb _ _ _ _ _ _ _ (by omega), hr_ub (by omega)]; exact a4
  · rw [hr_wc, hr_us]
theorem hr_okpins {f : Nat → Int32} (ho : hr_ok f) {p : Nat} (hp : p < 6) (hn : (p : Int) < (f 0).toInt) {v : Int32} (hv : 0 ≤ v.toInt ∧ v.toInt ≤ 9) : hr_ok (upd f (32 + 3 * p) v) := by
  have o := ho.2.2.1 p hp hn
  refine hr_okper (k := p) ho hp (fun j hj => ?_) ⟨?_, ?_, ?_⟩
  · rw [hr_ub (by omega)]
  · rw [hr_ub (by omega)]; exact o.1
  · rw [hr_ub (by omega)]; exact o.2.1
  · rw [hr_us]; exact hv
theorem hr_Eat {f : Nat → Int32} (hE : hr_E S b f) {p : Nat} (hp : p < 6) (hn : (p : Int) < (f 0).toInt) (v : Int32) : hr_E (hp_w S (b + 2) p v) b (upd f (30 + 3 * p) v) := by
  obtain ⟨a2, a3, a4, a5⟩ := hE.2.2.1 p hp hn
  refine hr_Eper (k := p) hE hp (fun i j hi hj => ?_) (fun j hj => ?_) ⟨?_, ?_, ?_, ?_⟩
  · rw [hr_wb _ _ _ _ _ _ _ (by omega)]
  · rw [hr_ub (by omega)]
  · rw [hr_wc, hr_us]
  · rw [hr_wb _ _ _ _ _ _ _ (by omega)]; exact a3
  · rw [hr_wb _ _ _ _ _ _ _ (by omega), hr_ub (by omega)]; exact a4
  · rw [hr_wb _ _ _ _ _ _ _ (by omega), hr_ub (by omega)]; exact a5
theorem hr_okat {f : Nat → Int32} (ho : hr_ok f) {p : Nat} (hp : p < 6) (hn : (p : Int) < (f 0).toInt) {v : Int32} (hv : 0 ≤ v.toInt ∧ v.toInt ≤ 20) : hr_ok (upd f (30 + 3 * p) v) := by
  have o := ho.2.2.1 p hp hn
  refine hr_okper (k := p) ho hp (fun j hj => ?_) ⟨?_, ?_, ?_⟩
  · rw [hr_ub (by omega)]
  · rw [hr_us]; exact hv
  · rw [hr_ub (by omega)]; exact o.2.1
  · rw [hr_ub (by omega)]; exact o.2.2
/-- one more person -/
theorem hr_Eaddp {f : Nat → Int32} (hE : hr_E S b f) {p : Nat} (hp : p < 6) (hn : (f 0).toInt = p) (hh : ¬ hr_held (f 5) p) {f' : Nat → Int32} (hf : ∀ j : Nat, j ≠ 0 → (j < 30 + 3 * p ∨ 32 + 3 * p < j) → f' j = f j) (h0 : (f' 0).toInt = p + 1) {S' : hp_S} (hS : ∀ i j : Nat, i ≤ 8 → (i ≠ 0 ∨ j ≠ 4) → (i < 2 ∨ 4 < i ∨ j ≠ p) → S' (b + i) j = S (b + i) j) (hS0 : S' b 4 = f' 0) (h2 : S' (b + 2) p = f' (30 + 3 * p)) (h3 : S' (b + 3) p = f' (31 + 3 * p)) (h4 : S' (b + 4) p = f' (32 + 3 * p)) : hr_E S' b f' := by
  obtain ⟨⟨e1, e2, e3, e4, e5⟩, ew, ep, eh⟩ := hE
  have hb : ∀ j : Nat, j ≠ 4 → S' b j = S b j := fun j q => hS 0 j (by omega) (Or.inr q) (Or.inl (by omega))
  refine ⟨⟨hS0, ?_, ?_, ?_, ?_⟩, fun h hh => ?_, fun q h6 hq => ?_, fun h h8 hh => ?_⟩
  · rw [hb _ (by omega), hf 1 (by omega) (by omega)]; exact e2
  · rw [hb _ (by omega), hf 2 (by omega) (by omega)]; exact e3
  · rw [hb _ (by omega), hf 3 (by omega) (by omega)]; exact e4
  · rw [hb _ (by omega), hf 4 (by omega) (by omega)]; exact e5
  · rw [hS 1 h (by omega) (by omega) (by omega), hf (6 + h) (by omega) (by omega)]; exact ew h hh
  · rw [hf 5 (by omega) (by omega)]
    by_cases z : q = p
    · subst z
      exact ⟨h2, fun w => absurd w hh, fun _ => h3, h4⟩
    · rw [hS 2 q (by omega) (by omega) (by omega), hS 3 q (by omega) (by omega) (by omega), hS 4 q (by omega) (by omega) (by omega), hf (30 + 3 * q) (by omega) (by omega), hf (31 + 3 * q) (by omega) (by omega), hf (32 + 3 * q) (by omega) (by omega)]
      exact ep q h6 (by omega)
  · rw [hf 1 (by omega) (by omega)] at hh
    rw [hS 5 h (by omega) (by omega) (by omega), hS 6 h (by omega) (by omega) (by omega), hS 7 h (by omega) (by omega) (by omega), hS 8 h (by omega) (by omega) (by omega), hf (48 + 4 * h) (by omega) (by omega), hf (49 + 4 * h) (by omega) (by omega), hf (50 + 4 * h) (by omega) (by omega), hf (51 + 4 * h) (by omega) (by omega)]
    exact eh h h8 hh
theorem hr_okaddp {f : Nat → Int32} (ho : hr_ok f) {p : Nat} (hp : p < 6) (hn : (f 0).toInt = p) {f' : Nat → Int32} (hf : ∀ j : Nat, j ≠ 0 → (j < 30 + 3 * p ∨ 32 + 3 * p < j) → f' j = f j) (h0 : (f' 0).toInt = p + 1) (hw : (0 ≤ (f' (30 + 3 * p)).toInt ∧ (f' (30 + 3 * p)).toInt ≤ 20) ∧ (1 ≤ (f' (31 + 3 * p)).toInt ∧ (f' (31 + 3 * p)).toInt ≤ 5) ∧ (0 ≤ (f' (32 + 3 * p)).toInt ∧ (f' (32 + 3 * p)).toInt ≤ 9)) : hr_ok f' := by
  obtain ⟨⟨o0, o1, o2, o3⟩, ow, op, oh⟩ := ho
  refine ⟨⟨by omega, ?_, ?_, trivial⟩, fun h hh => ?_, fun q h6 hq => ?_, fun h h8 hh => ?_⟩
  · rw [hf 1 (by omega) (by omega)]; exact o1
  · rw [hf 2 (by omega) (by omega)]; exact o2
  · rw [hf (6 + h) (by omega) (by omega)]; exact ow h hh
  · by_cases z : q = p
    · subst z; exact hw
    · rw [hf (30 + 3 * q) (by omega) (by omega), hf (31 + 3 * q) (by omega) (by omega), hf (32 + 3 * q) (by omega) (by omega)]
      exact op q h6 (by omega)
  · rw [hf 1 (by omega) (by omega)] at hh
    have o := oh h h8 hh
    rw [hf (48 + 4 * h) (by omega) (by omega), hf (49 + 4 * h) (by omega) (by omega), hf (50 + 4 * h) (by omega) (by omega), hf (51 + 4 * h) (by omega) (by omega)]
    refine ⟨o.1, o.2.1, o.2.2.1.imp id (fun q => ⟨q.1, by omega⟩), o.2.2.2⟩
/-- one more hat, worn -/
theorem hr_Eaddh {f : Nat → Int32} (hE : hr_E S b f) {k : Nat} (hk : k < 8) (hn : (f 1).toInt = k) {f' : Nat → Int32} (hf : ∀ j : Nat, j ≠ 1 → (j < 48 + 4 * k ∨ 51 + 4 * k < j) → f' j = f j) (h1 : (f' 1).toInt = k + 1) {S' : hp_S} (hS : ∀ i j : Nat, i ≤ 8 → (i ≠ 0 ∨ j ≠ 8) → (i < 5 ∨ j ≠ k) → S' (b + i) j = S (b + i) j) (hS0 : S' b 8 = f' 1) (h5 : S' (b + 5) k = f' (48 + 4 * k)) (h6 : S' (b + 6) k = f' (49 + 4 * k)) (h7 : S' (b + 7) k = f' (50 + 4 * k)) (hw : f' (50 + 4 * k) ≠ hr_9) : hr_E S' b f' := by
  obtain ⟨⟨e1, e2, e3, e4, e5⟩, ew, ep, eh⟩ := hE
  have hb : ∀ j : Nat, j ≠ 8 → S' b j = S b j := fun j q => hS 0 j (by omega) (Or.inr q) (Or.inl (by omega))
  refine ⟨⟨?_, hS0, ?_, ?_, ?_⟩, fun h hh => ?_, fun q h6' hq => ?_, fun h h8 hh => ?_⟩
  · rw [hb _ (by omega), hf 0 (by omega) (by omega)]; exact e1
  · rw [hb _ (by omega), hf 2 (by omega) (by omega)]; exact e3
  · rw [hb _ (by omega), hf 3 (by omega) (by omega)]; exact e4
  · rw [hb _ (by omega), hf 4 (by omega) (by omega)]; exact e5
  · rw [hS 1 h (by omega) (by omega) (by omega), hf (6 + h) (by omega) (by omega)]; exact ew h hh
  · rw [hf 0 (by omega) (by omega)] at hq
    rw [hf 5 (by omega) (by omega), hS 2 q (by omega) (by omega) (by omega), hS 3 q (by omega) (by omega) (by omega), hS 4 q (by omega) (by omega) (by omega), hf (30 + 3 * q) (by omega) (by omega), hf (31 + 3 * q) (by omega) (by omega), hf (32 + 3 * q) (by omega) (by omega)]
    exact ep q h6' hq
  · by_cases z : h = k
    · subst z
      exact ⟨h5, h6, h7, fun w => absurd w hw⟩
    · rw [hS 5 h (by omega) (by omega) (by omega), hS 6 h (by omega) (by omega) (by omega), hS 7 h (by omega) (by omega) (by omega), hS 8 h (by omega) (by omega) (by omega), hf (48 + 4 * h) (by omega) (by omega), hf (49 + 4 * h) (by omega) (by omega), hf (50 + 4 * h) (by omega) (by omega), hf (51 + 4 * h) (by omega) (by omega)]
      exact eh h h8 (by omega)
theorem hr_okaddh {f : Nat → Int32} (ho : hr_ok f) {k : Nat} (hk : k < 8) (hn : (f 1).toInt = k) {f' : Nat → Int32} (hf : ∀ j : Nat, j ≠ 1 → (j < 48 + 4 * k ∨ 51 + 4 * k < j) → f' j = f j) (h1 : (f' 1).toInt = k + 1) (hw : (0 ≤ (f' (48 + 4 * k)).toInt ∧ (f' (48 + 4 * k)).toInt ≤ 7) ∧ (0 ≤ (f' (49 + 4 * k)).toInt ∧ (f' (49 + 4 * k)).toInt ≤ 9) ∧ f' (50 + 4 * k) ≠ hr_9 ∧ (0 ≤ (f' (50 + 4 * k)).toInt ∧ (f' (50 + 4 * k)).toInt < (f 0).toInt)) : hr_ok f' := by
  obtain ⟨⟨o0, o1, o2, o3⟩, ow, op, oh⟩ := ho
  refine ⟨⟨?_, by omega, ?_, trivial⟩, fun h hh => ?_, fun q h6 hq => ?_, fun h h8 hh => ?_⟩
  · rw [hf 0 (by omega) (by omega)]; exact o0
  · rw [hf 2 (by omega) (by omega)]; exact o2
  · rw [hf (6 + h) (by omega) (by omega)]; exact ow h hh
  · rw [hf 0 (by omega) (by omega)] at hq
    rw [hf (30 + 3 * q) (by omega) (by omega), hf (31 + 3 * q) (by omega) (by omega), hf (32 + 3 * q) (by omega) (by omega)]
    exact op q h6 hq
  · rw [hf 0 (by omega) (by omega)]
    by_cases z : h = k
    · subst z
      exact ⟨hw.1, hw.2.1, Or.inr hw.2.2.2, fun w => absurd w hw.2.2.1⟩
    · rw [hf (48 + 4 * h) (by omega) (by omega), hf (49 + 4 * h) (by omega) (by omega), hf (50 + 4 * h) (by omega) (by omega), hf (51 + 4 * h) (by omega) (by omega)]
      exact oh h h8 (by omega)
end HR

section HR
variable {S T : hp_S} {b c : Nat} {i x : Int32} {k : Nat}
theorem hr_iE {P : Prop} [Decidable P] {α : Type} (h : P) (x y : α) : (if hz_cmp .eq (hr_b P) 0 = true then x else y) = y := if_neg (by rw [hr_e0]; exact fun q => q h)
theorem hr_iEn {P : Prop} [Decidable P] {α : Type} (h : ¬ P) (x y : α) : (if hz_cmp .eq (hr_b P) 0 = true then x else y) = x := if_pos (by rw [hr_e0]; exact h)
theorem hr_iN {P : Prop} [Decidable P] {α : Type} (h : P) (x y : α) : (if hz_cmp .ne (hr_b P) 0 = true then x else y) = x := if_pos (by rw [hr_n0]; exact h)
theorem hr_iNn {P : Prop} [Decidable P] {α : Type} (h : ¬ P) (x y : α) : (if hz_cmp .ne (hr_b P) 0 = true then x else y) = y := if_neg (by rw [hr_n0]; exact h)
/-- what a call of the class and one of the reference answer and leave -/
def hr_R (b : Nat) (T : hp_S) (A B : Int32 × hp_S) : Prop := A.1 = B.1 ∧ hr_E A.2 b (B.2 48) ∧ hr_ok (B.2 48) ∧ B.2 48 5 = T 48 5
theorem hr_Rs (hE : hr_E S b (T 48)) (ho : hr_ok (T 48)) (v : Int32) : hr_R b T (v, S) (v, T) := ⟨rfl, hE, ho, rfl⟩
theorem hr_194 (hE : hr_E S b (T 48)) (ho : hr_ok (T 48)) (h v : Int32) : hr_R b T (hq_194 S b h v) (hq_112 T h v) := by
  have e6 : (Int32.ofInt 6).toInt = 6 := by decide
  have e23 : (Int32.ofInt 23).toInt = 23 := by decide
  have e9 : (Int32.ofInt 9).toInt = 9 := by decide
  unfold hq_194 hq_112 hq_47
  rw [hr_44, hr_70, hr_44, hr_70]
  by_cases p : (Int32.ofInt 0).toInt ≤ h.toInt ∧ h.toInt ≤ (Int32.ofInt 23).toInt
  · rw [hr_iE p, hr_iE p]
    by_cases q : (Int32.ofInt 0).toInt ≤ v.toInt ∧ v.toInt ≤ (Int32.ofInt 9).toInt
    · rw [hr_iN q, hr_iN q]
      rw [hr_o0, e23] at p
      rw [hr_o0, e9] at q
      have hh : h.toInt = ((h.toInt.toNat : Nat) : Int) := by omega
      have hj : (Int32.ofInt 6 + h).toInt = ((6 + h.toInt.toNat : Nat) : Int) := by rw [hp_add (by omega) (by omega), e6]; omega
      rw [hr_nat hh, hr_nat hj, hr_wg T 48 hj (by omega)]
      refine ⟨hE.2.1 _ (by omega), ?_, ?_, ?_⟩
      · dsimp only; rw [hp_ws]; exact hr_Ewind hE (by omega) v
      · dsimp only; rw [hp_ws]; exact hr_okwind ho (by omega) q
      · dsimp only; rw [hp_ws, hr_ub (by omega)]
    · rw [hr_iNn q, hr_iNn q]
      exact hr_Rs hE ho _
  · rw [hr_iEn p, hr_iEn p]
    exact hr_Rs hE ho _
theorem hr_w4 (T : hp_S) (v : Int32) : hp_wg 80 T 48 (Int32.ofInt 4) v = hp_w T 48 4 v := hr_wg T 48 (show _ = ((4 : Nat) : Int) by decide) (by omega)
theorem hr_195 (hE : hr_E S b (T 48)) (ho : hr_ok (T 48)) (p : Int32) : hr_R b T (hq_195 S b p) (hq_113 T p) := by
  unfold hq_195 hq_113 hq_46 hq_78
  rw [hr_44, hr_70, hr_n4', hr_w4]
  by_cases q : (Int32.ofInt 0).toInt ≤ p.toInt ∧ p.toInt ≤ (Int32.ofInt 20).toInt
  · rw [hr_iN q, hr_iN q]
    rw [hr_w0s, hr_w0s, hE.1.2.2.2.2]
    refine ⟨rfl, ?_, ?_, ?_⟩
    · dsimp only; rw [hp_ws]; exact hr_Elee hE _
    · dsimp only; rw [hp_ws]; exact hr_oklee ho _
    · dsimp only; rw [hp_ws, hr_ub (by omega)]
  · rw [hr_iNn q, hr_iNn q]
    exact hr_Rs hE ho _
theorem hr_196 (hE : hr_E S b (T 48)) (ho : hr_ok (T 48)) (p v : Int32) : hr_R b T (hq_196 S b p v) (hq_114 T p v) := by
  have e9 : (Int32.ofInt 9).toInt = 9 := by decide
  have h6 := ho.1.1
  unfold hq_196 hq_114
  rw [hr_44, hr_70, hr_181, hr_76 T p h6.1, hE.1.1]
  by_cases q : 0 ≤ p.toInt ∧ p.toInt < (T 48 0).toInt
  · rw [hr_iE q, hr_iE q]
    by_cases w : (Int32.ofInt 0).toInt ≤ v.toInt ∧ v.toInt ≤ (Int32.ofInt 9).toInt
    · rw [hr_iN w, hr_iN w]
      rw [hr_o0, e9] at w
      have hp : p.toInt = ((p.toInt.toNat : Nat) : Int) := by omega
      have hj : (hq_74 T p (Int32.ofInt 2)).toInt = ((32 + 3 * p.toInt.toNat : Nat) : Int) := by rw [hr_P T hp (by omega) (show _ = (2 : Int) by decide) (by omega)]; omega
      rw [hr_nat hp, hr_nat hj, hr_wg T 48 hj (by omega)]
      refine ⟨(hE.2.2.1 _ (by omega) (by omega)).2.2.2, ?_, ?_, ?_⟩
      · dsimp only; rw [hp_ws]; exact hr_Epins hE (by omega) (by omega) v
      · dsimp only; rw [hp_ws]; exact hr_okpins ho (by omega) (by omega) w
      · dsimp only; rw [hp_ws, hr_ub (by omega)]
    · rw [hr_iNn w, hr_iNn w]
      exact hr_Rs hE ho _
  · rw [hr_iEn q, hr_iEn q]
    exact hr_Rs hE ho _
theorem hr_9m (hE : hr_E S 1 (T 48)) (ho : hr_ok (T 48)) (p v : Int32) : hr_R 1 T (hq_9 S p v) (hq_115 T p v) := by
  have e20 : (Int32.ofInt 20).toInt = 20 := by decide
  have h6 := ho.1.1
  unfold hq_9 hq_115 hq_46 hq_78
  rw [hr_44, hr_70, hr_181, hr_76 T p h6.1, hE.1.1]
  by_cases q : 0 ≤ p.toInt ∧ p.toInt < (T 48 0).toInt
  · rw [hr_iE q, hr_iE q]
    by_cases w : (Int32.ofInt 0).toInt ≤ v.toInt ∧ v.toInt ≤ (Int32.ofInt 20).toInt
    · rw [hr_iN w, hr_iN w]
      rw [hr_o0, e20] at w
      have hp : p.toInt = ((p.toInt.toNat : Nat) : Int) := by omega
      have hj : (hq_74 T p (Int32.ofInt 0)).toInt = ((30 + 3 * p.toInt.toNat : Nat) : Int) := by rw [hr_P T hp (by omega) (show _ = (0 : Int) by decide) (by omega)]; omega
      rw [hr_nat hp, hr_nat hj, hr_wg T 48 hj (by omega)]
      refine ⟨(hE.2.2.1 _ (by omega) (by omega)).1, ?_, ?_, ?_⟩
      · dsimp only; rw [hp_ws]; exact hr_Eat hE (by omega) (by omega) v
      · dsimp only; rw [hp_ws]; exact hr_okat ho (by omega) (by omega) w
      · dsimp only; rw [hp_ws, hr_ub (by omega)]
    · rw [hr_iNn w, hr_iNn w]
      exact hr_Rs hE ho _
  · rw [hr_iEn q, hr_iEn q]
    exact hr_Rs hE ho _
/-- nobody holds on -/
theorem hr_nh (k : Nat) : ¬ hr_held 0 k := by
  unfold hr_held
  rw [show (0 : Int32) >>> (Int32.ofInt k &&& 31) = 0 from Int32.zero_shiftRight]
  decide
/-- the reference's new person, in the row -/
theorem hr_103 (T : hp_S) (a s : Int32) (hk : k < 6) (hn : (T 48 0).toInt = k) : hq_103 T a s 48 = upd (upd (upd (upd (T 48) (30 + 3 * k) a) (31 + 3 * k) s) (32 + 3 * k) (Int32.ofInt 0)) 0 (T 48 0 + Int32.ofInt 1) := by
  have w : ∀ (T : hp_S) (z v : Int32) (n : Int) , z.toInt = n → 0 ≤ n ∧ n ≤ 2 → (T 48 0).toInt = k → hp_wg 80 T 48 (hq_74 T (T 48 (Int32.ofInt 0).toNatClampNeg) z) v = hp_w T 48 (30 + 3 * k + n.toNat) v := by
    intro T z v n hz hn' h0
    rw [hr_n0']
    exact hr_wg T 48 (by rw [hr_P T h0 (by omega) hz hn']; omega) (by omega)
  unfold hq_103
  rw [w T _ _ 0 (by decide) (by omega) hn]
  unfold hq_103_16
  rw [w _ _ _ 1 (by decide) (by omega) (by rw [hr_w0' _ _ _ _ _ (by omega)]; exact hn)]
  unfold hq_103_32
  rw [w _ _ _ 2 (by decide) (by omega) (by rw [hr_w0' _ _ _ _ _ (by omega), hr_w0' _ _ _ _ _ (by omega)]; exact hn)]
  unfold hq_103_48
  rw [hr_n0', hr_wg _ 48 (j := Int32.ofInt 0) (n := 0) (by decide) (by omega), hr_w0' _ _ _ _ _ (by omega), hr_w0' _ _ _ _ _ (by omega), hr_w0' _ _ _ _ _ (by omega)]
  unfold hq_103_58
  rw [hp_ws, hp_ws, hp_ws, hp_ws, show 30 + 3 * k + Int.toNat 0 = 30 + 3 * k from rfl, show 30 + 3 * k + Int.toNat 1 = 31 + 3 * k from (by show 30 + 3 * k + 1 = 31 + 3 * k; omega), show 30 + 3 * k + Int.toNat 2 = 32 + 3 * k from (by show 30 + 3 * k + 2 = 32 + 3 * k; omega)]
theorem hr_192 (hE : hr_E S b (T 48)) (ho : hr_ok (T 48)) (hz : T 48 5 = 0) (a s : Int32) (ha : 0 ≤ a.toInt ∧ a.toInt ≤ 20) (hs : 1 ≤ s.toInt ∧ s.toInt ≤ 5) (hn : (T 48 0).toInt < 6) : (hq_192 S b a s).1 = T 48 0 ∧ (hq_103 T a s 48 0) - Int32.ofInt 1 = T 48 0 ∧ hr_E (hq_192 S b a s).2 b (hq_103 T a s 48) ∧ hr_ok (hq_103 T a s 48) ∧ hq_103 T a s 48 5 = T 48 5 := by
  have h6 := ho.1.1
  obtain ⟨k, hk6, ek⟩ : ∃ k : Nat, k < 6 ∧ (T 48 0).toInt = k := ⟨(T 48 0).toInt.toNat, by omega, by omega⟩
  have e20 : (Int32.ofInt 20).toInt = 20 := by decide
  have e5 : (Int32.ofInt 5).toInt = 5 := by decide
  have e6 : (Int32.ofInt 6).toInt = 6 := by decide
  have e103 := hr_103 T a s hk6 ek
  have up1 : (T 48 0 + Int32.ofInt 1).toInt = k + 1 := by rw [hr_up ek (by omega)]; omega
  have um : (T 48 0 + Int32.ofInt 1) - Int32.ofInt 1 = T 48 0 := by
    apply Int32.toInt_inj.mp
    rw [hr_m1 (by omega), up1]
    omega
  have hb4 := hE.1.1
  have cls : hq_192 S b a s = (T 48 0, hp_w (hp_w (hp_w (hp_w S (b + 2) k a) (b + 3) k s) (b + 4) k (Int32.ofInt 0)) b 4 (T 48 0 + Int32.ofInt 1)) := by
    unfold hq_192 hq_46
    rw [hr_44, hr_44, if_neg (by rw [hr_e0, hr_o0, e20]; omega), if_pos (by rw [hr_n0, hr_o1, e5]; omega), if_pos (by rw [hr_lt, hb4, e6]; omega)]
    unfold hq_192_40
    rw [hb4, hr_nat ek]
    unfold hq_192_50
    rw [hr_wz _ _ _ _ _ _ (by omega), hb4, hr_nat ek]
    unfold hq_192_60
    rw [hr_wz _ _ _ _ _ _ (by omega), hr_wz _ _ _ _ _ _ (by omega), hb4, hr_nat ek]
    unfold hq_192_70
    rw [hr_wz _ _ _ _ _ _ (by omega), hr_wz _ _ _ _ _ _ (by omega), hr_wz _ _ _ _ _ _ (by omega), hb4, hr_w0s, um]
  rw [cls, e103]
  dsimp only
  refine ⟨rfl, by rw [hr_us]; exact um, ?_, ?_, ?_⟩
  · refine hr_Eaddp hE hk6 ek (by rw [hz]; exact hr_nh k) (fun j j0 jk => ?_) (by rw [hr_us]; exact up1) (fun i j hi h0 hp => ?_) ?_ ?_ ?_ ?_
    · rw [hr_ub (by omega), hr_ub (by omega), hr_ub (by omega), hr_ub (by omega)]
    · rw [hr_w0 _ _ _ _ _ _ (by omega), hr_wb _ _ _ _ _ _ _ (by omega), hr_wb _ _ _ _ _ _ _ (by omega), hr_wb _ _ _ _ _ _ _ (by omega)]
    · rw [hr_w0s, hr_us]
    · rw [hr_w0 _ _ _ _ _ _ (by omega), hr_wb _ _ _ _ _ _ _ (by omega), hr_wb _ _ _ _ _ _ _ (by omega), hr_wc, hr_ub (by omega), hr_ub (by omega), hr_ub (by omega), hr_us]
    · rw [hr_w0 _ _ _ _ _ _ (by omega), hr_wb _ _ _ _ _ _ _ (by omega), hr_wc, hr_ub (by omega), hr_ub (by omega), hr_us]
    · rw [hr_w0 _ _ _ _ _ _ (by omega), hr_wc, hr_ub (by omega), hr_us]
  · refine hr_okaddp ho hk6 ek (fun j j0 jk => ?_) (by rw [hr_us]; exact up1) ⟨?_, ?_, ?_⟩
    · rw [hr_ub (by omega), hr_ub (by omega), hr_ub (by omega), hr_ub (by omega)]
    · rw [hr_ub (by omega), hr_ub (by omega), hr_ub (by omega), hr_us]; exact ha
    · rw [hr_ub (by omega), hr_ub (by omega), hr_us]; exact hs
    · rw [hr_ub (by omega), hr_us]; decide
  · rw [hr_ub (by omega), hr_ub (by omega), hr_ub (by omega), hr_ub (by omega)]
theorem hr_comes (hE : hr_E S b (T 48)) (ho : hr_ok (T 48)) (hz : T 48 5 = 0) (a s : Int32) : hr_R b T (hq_192 S b a s) (hq_110 T a s) := by
  have h6 := ho.1.1
  have e20 : (Int32.ofInt 20).toInt = 20 := by decide
  have e5 : (Int32.ofInt 5).toInt = 5 := by decide
  have e6 : (Int32.ofInt 6).toInt = 6 := by decide
  by_cases p : 0 ≤ a.toInt ∧ a.toInt ≤ 20
  · by_cases q : 1 ≤ s.toInt ∧ s.toInt ≤ 5
    · by_cases n : (T 48 0).toInt < 6
      · have h := hr_192 hE ho hz a s p q n
        have r : hq_110 T a s = ((hq_103 T a s 48 0) - Int32.ofInt 1, hq_103 T a s) := by
          unfold hq_110 hq_78
          rw [hr_70, hr_70, if_neg (by rw [hr_e0, hr_o0, e20]; omega), if_pos (by rw [hr_n0, hr_o1, e5]; omega), hr_n0', if_pos]
          rw [hr_ne]
          intro z
          rw [z] at n
          omega
        rw [r]
        unfold hr_R
        dsimp only
        exact ⟨h.1.trans h.2.1.symm, h.2.2.1, h.2.2.2.1, h.2.2.2.2⟩
      · have r : hq_110 T a s = (Int32.ofInt (-2), T) := by
          unfold hq_110 hq_78
          rw [hr_70, hr_70, if_neg (by rw [hr_e0, hr_o0, e20]; omega), if_pos (by rw [hr_n0, hr_o1, e5]; omega), hr_n0', if_neg]
          rw [hr_ne]
          exact fun z => z (Int32.toInt_inj.mp (by omega))
        have r2 : hq_192 S b a s = (Int32.ofInt (-2), S) := by
          unfold hq_192 hq_46
          rw [hr_44, hr_44, if_neg (by rw [hr_e0, hr_o0, e20]; omega), if_pos (by rw [hr_n0, hr_o1, e5]; omega), if_neg (by rw [hr_lt, hE.1.1, e6]; omega)]
        rw [r, r2]
        exact hr_Rs hE ho _
    · have r : hq_110 T a s = (Int32.ofInt (-1), T) := by
        unfold hq_110 hq_78
        rw [hr_70, hr_70, if_neg (by rw [hr_e0, hr_o0, e20]; omega), if_neg (by rw [hr_n0, hr_o1, e5]; omega)]
      have r2 : hq_192 S b a s = (Int32.ofInt (-1), S) := by
        unfold hq_192 hq_46
        rw [hr_44, hr_44, if_neg (by rw [hr_e0, hr_o0, e20]; omega), if_neg (by rw [hr_n0, hr_o1, e5]; omega)]
      rw [r, r2]
      exact hr_Rs hE ho _
  · have r : hq_110 T a s = (Int32.ofInt (-1), T) := by
      unfold hq_110 hq_78
      rw [hr_70, hr_70, if_pos (by rw [hr_e0, hr_o0, e20]; exact p)]
    have r2 : hq_192 S b a s = (Int32.ofInt (-1), S) := by
      unfold hq_192 hq_46
      rw [hr_44, hr_44, if_pos (by rw [hr_e0, hr_o0, e20]; exact p)]
    rw [r, r2]
    exact hr_Rs hE ho _
end HR

section HR
variable {S T : hp_S} {b c : Nat} {i x : Int32} {k : Nat}
/-! bits -/
def hr_S0 : hp_S := fun _ _ => 0
theorem hr_80l (x : Int32) : ∀ (m : Nat) (S : hp_S) (v i : Int32), hq_80_4 x m S v i = hq_80_4 x m hr_S0 v i := by
  intro m
  induction m with
  | zero => intros; rfl
  | succ m ih =>
    intro S v i
    rw [hq_80_4, hq_80_4, ih]
theorem hr_80 (S : hp_S) (x : Int32) : hq_80 S x = hq_80 hr_S0 x := hr_80l x _ _ _ _
theorem hr_bits (S T : hp_S) (x : Int32) (h0 : 0 ≤ x.toInt) (h1 : x.toInt ≤ 255) : hq_216 S x = hq_80 T x ∧ 0 ≤ (hq_80 T x).toInt := by
  obtain ⟨m, hm, rfl⟩ := hr_nz (n := 255) h0 h1
  have d : ∀ m ≤ 255, hq_216 hr_S0 (Int32.ofInt (m : Nat)) = hq_80 hr_S0 (Int32.ofInt m) ∧ 0 ≤ (hq_80 hr_S0 (Int32.ofInt m)).toInt := by decide +kernel
  rw [hr_80 T]
  exact d m hm
theorem hr_or : ∀ k < 8, ∀ v < 256, v < 2 ^ k → 0 ≤ (Int32.ofInt (v : Nat) ||| (Int32.ofInt 1 <<< (Int32.ofInt (k : Nat) &&& 31))).toInt ∧ (Int32.ofInt (v : Nat) ||| (Int32.ofInt 1 <<< (Int32.ofInt (k : Nat) &&& 31))).toInt < 2 ^ (k + 1) := by decide +kernel
theorem hr_96b (ho : hr_ok (T c)) : ∀ (m : Nat) (v i : Int32) (k : Nat), i.toInt = k → k ≤ 6 → 0 ≤ v.toInt → v.toInt < 2 ^ k → 0 ≤ (hq_96_4 c m T v i).toInt ∧ (hq_96_4 c m T v i).toInt < 64 := by
  intro m
  induction m with
  | zero => intros; rw [hq_96_4]; exact ⟨by decide, by decide⟩
  | succ m ih =>
    intro v i k hi hk v0 v1
    have h6 := ho.1.1
    have p6 : (2 : Int) ^ k ≤ 64 := by
      have : ∀ k ≤ 6, (2 : Int) ^ k ≤ 64 := by decide
      exact this k hk
    rw [hq_96_4, hr_n0', hr_or0]
    by_cases h : hz_cmp .ge i (T c 0) = true
    · rw [if_pos h]; exact ⟨v0, by omega⟩
    · rw [if_neg h]
      rw [hr_ge] at h
      have hk' : k < 6 := by omega
      have hup := hr_up hi (by omega)
      have p2 : (2 : Int) ^ (k + 1) = 2 ^ k + 2 ^ k := by omega
      have hor := hr_or k (by omega) v.toInt.toNat (by omega) (by
        have : ((2 ^ k : Nat) : Int) = (2 : Int) ^ k := by simp
        omega)
      rw [← hr_of (i := v) (k := v.toInt.toNat) (by omega), ← hr_of hi] at hor
      split
      · exact ih v _ (k + 1) hup hk' v0 (by omega)
      · exact ih _ _ (k + 1) hup hk' hor.1 hor.2
theorem hr_96 (ho : hr_ok (T c)) : 0 ≤ (hq_96 T c).toInt ∧ (hq_96 T c).toInt < 64 := hr_96b ho _ _ _ 0 (by decide) (by omega) (by decide) (by decide)
theorem hr_98b (ho : hr_ok (T c)) : ∀ (m : Nat) (v i : Int32) (k : Nat), i.toInt = k → k ≤ 8 → 0 ≤ v.toInt → v.toInt < 2 ^ k → 0 ≤ (hq_98_4 c m T v i).toInt ∧ (hq_98_4 c m T v i).toInt < 256 := by
  intro m
  induction m with
  | zero => intros; rw [hq_98_4]; exact ⟨by decide, by decide⟩
  | succ m ih =>
    intro v i k hi hk v0 v1
    have h8 := ho.1.2.1
    have p6 : (2 : Int) ^ k ≤ 256 := by
      have : ∀ k ≤ 8, (2 : Int) ^ k ≤ 256 := by decide
      exact this k hk
    rw [hq_98_4, hr_n1', hr_or0]
    by_cases h : hz_cmp .ge i (T c 1) = true
    · rw [if_pos h]; exact ⟨v0, by omega⟩
    · rw [if_neg h]
      rw [hr_ge] at h
      have hk' : k < 8 := by omega
      have hup := hr_up hi (by omega)
      have p2 : (2 : Int) ^ (k + 1) = 2 ^ k + 2 ^ k := by omega
      have hor := hr_or k (by omega) v.toInt.toNat (by omega) (by
        have : ((2 ^ k : Nat) : Int) = (2 : Int) ^ k := by simp
        omega)
      rw [← hr_of (i := v) (k := v.toInt.toNat) (by omega), ← hr_of hi] at hor
      split
      · exact ih v _ (k + 1) hup hk' v0 (by omega)
      · exact ih _ _ (k + 1) hup hk' hor.1 hor.2
theorem hr_98 (ho : hr_ok (T c)) : 0 ≤ (hq_98 T c).toInt ∧ (hq_98 T c).toInt < 256 := hr_98b ho _ _ _ 0 (by decide) (by omega) (by decide) (by decide)
/-! told hours -/
theorem hr_199 (hE : hr_E S b (T 48)) (ho : hr_ok (T 48)) (n : Int32) : hr_R b T (hq_199 S b n) (hq_116 T n) := by
  unfold hq_199 hq_116 hq_95
  rw [hr_44, hr_70, hr_n2', hr_n3', hE.1.2.2.1, hE.1.2.2.2.1]
  by_cases p : (Int32.ofInt 1).toInt ≤ n.toInt ∧ n.toInt ≤ (Int32.ofInt 60).toInt
  · rw [hr_iN p, hr_iN p]
    by_cases q : hz_cmp .le (T 48 3 + (T 48 2 + n) / Int32.ofInt 24) (Int32.ofInt 999) = true
    · rw [if_pos q]
      have q' : ¬ (hz_cmp .gt (T 48 3 + (T 48 2 + n) / Int32.ofInt 24) (Int32.ofInt 999) = true) := by
        rw [hr_gt]; rw [hr_le] at q; omega
      rw [if_neg q', if_pos (by decide)]
      have h := hr_200 n hE ho
      unfold hq_200 at h
      rw [hr_199l]
      generalize hq_200_2 b n ((n.toInt - (Int32.ofInt 0).toInt).toNat + 1) S (Int32.ofInt 0) = S1 at *
      generalize hq_94 T 48 n = T1 at *
      have hb := hr_96 h.2.1
      unfold hr_R
      dsimp only
      refine ⟨?_, h.1, h.2.1, h.2.2.2.2⟩
      rw [hr_189 h.1 h.2.1]
      exact (hr_bits S1 T1 _ hb.1 (by omega)).1
    · rw [if_neg q]
      have q' : hz_cmp .gt (T 48 3 + (T 48 2 + n) / Int32.ofInt 24) (Int32.ofInt 999) = true := by
        rw [hr_gt]; rw [hr_le] at q; omega
      rw [if_pos q', if_neg (by decide)]
      exact hr_Rs hE ho _
  · rw [hr_iNn p, hr_iNn p]
    exact hr_Rs hE ho _
/-! one more hat -/
theorem hr_104 (T : hp_S) (a g p : Int32) (hk : k < 8) (hn : (T 48 1).toInt = k) : hq_104 T a g p 48 = upd (upd (upd (upd (upd (T 48) (48 + 4 * k) a) (49 + 4 * k) g) (50 + 4 * k) p) (51 + 4 * k) (Int32.ofInt 0)) 1 (T 48 1 + Int32.ofInt 1) := by
  have w : ∀ (T : hp_S) (z v : Int32) (n : Int) , z.toInt = n → 0 ≤ n ∧ n ≤ 3 → (T 48 1).toInt = k → hp_wg 80 T 48 (hq_75 T (T 48 (Int32.ofInt 1).toNatClampNeg) z) v = hp_w T 48 (48 + 4 * k + n.toNat) v := by
    intro T z v n hz hn' h0
    rw [hr_n1']
    exact hr_wg T 48 (by rw [hr_H T h0 (by omega) hz hn']; omega) (by omega)
  unfold hq_104
  rw [w T _ _ 0 (by decide) (by omega) hn]
  unfold hq_104_16
  rw [w _ _ _ 1 (by decide) (by omega) (by rw [hr_w0' _ _ _ _ _ (by omega)]; exact hn)]
  unfold hq_104_32
  rw [w _ _ _ 2 (by decide) (by omega) (by rw [hr_w0' _ _ _ _ _ (by omega), hr_w0' _ _ _ _ _ (by omega)]; exact hn)]
  unfold hq_104_48
  rw [w _ _ _ 3 (by decide) (by omega) (by rw [hr_w0' _ _ _ _ _ (by omega), hr_w0' _ _ _ _ _ (by omega), hr_w0' _ _ _ _ _ (by omega)]; exact hn)]
  unfold hq_104_64
  rw [hr_n1', hr_wg _ 48 (j := Int32.ofInt 1) (n := 1) (by decide) (by omega), hr_w0' _ _ _ _ _ (by omega), hr_w0' _ _ _ _ _ (by omega), hr_w0' _ _ _ _ _ (by omega), hr_w0' _ _ _ _ _ (by omega)]
  unfold hq_104_74
  rw [hp_ws, hp_ws, hp_ws, hp_ws, hp_ws, show 48 + 4 * k + Int.toNat 0 = 48 + 4 * k from rfl, show 48 + 4 * k + Int.toNat 1 = 49 + 4 * k from (by show 48 + 4 * k + 1 = 49 + 4 * k; omega), show 48 + 4 * k + Int.toNat 2 = 50 + 4 * k from (by show 48 + 4 * k + 2 = 50 + 4 * k; omega), show 48 + 4 * k + Int.toNat 3 = 51 + 4 * k from (by show 48 + 4 * k + 3 = 51 + 4 * k; omega)]
theorem hr_193 (hE : hr_E S b (T 48)) (ho : hr_ok (T 48)) (a g p : Int32) (ha : 0 ≤ a.toInt ∧ a.toInt ≤ 7) (hg : 0 ≤ g.toInt ∧ g.toInt ≤ 9) (hp : 0 ≤ p.toInt ∧ p.toInt < (T 48 0).toInt) (hb : hq_88 T 48 p = hr_9) (hn : (T 48 1).toInt < 8) : (hq_193 S b a g p).1 = T 48 1 ∧ (hq_104 T a g p 48 1) - Int32.ofInt 1 = T 48 1 ∧ hr_E (hq_193 S b a g p).2 b (hq_104 T a g p 48) ∧ hr_ok (hq_104 T a g p 48) ∧ hq_104 T a g p 48 5 = T 48 5 := by
  have h6 := ho.1.1
  have h8 := ho.1.2.1
  obtain ⟨k, hk8, ek⟩ : ∃ k : Nat, k < 8 ∧ (T 48 1).toInt = k := ⟨(T 48 1).toInt.toNat, by omega, by omega⟩
  have e7 : (Int32.ofInt 7).toInt = 7 := by decide
  have e9 : (Int32.ofInt 9).toInt = 9 := by decide
  have e8 : (Int32.ofInt 8).toInt = 8 := by decide
  have e104 := hr_104 T a g p hk8 ek
  have up1 : (T 48 1 + Int32.ofInt 1).toInt = k + 1 := by rw [hr_up ek (by omega)]; omega
  have um : (T 48 1 + Int32.ofInt 1) - Int32.ofInt 1 = T 48 1 := by
    apply Int32.toInt_inj.mp
    rw [hr_m1 (by omega), up1]
    omega
  have hb8 := hE.1.2.1
  have hp9 : p ≠ hr_9 := by
    intro q
    rw [q] at hp
    have h9 : hr_9.toInt = 9 := by decide
    omega
  have cls : ∃ v : Int32, hq_193 S b a g p = (T 48 1, hp_w (hp_w (hp_w (hp_w (hp_w S (b + 5) k a) (b + 6) k g) (b + 7) k p) (b + 8) k v) b 8 (T 48 1 + Int32.ofInt 1)) := by
    unfold hq_193 hq_48 hq_49
    rw [hr_44, hr_44, hr_181, hr_188 hE ho, if_neg (by rw [hr_e0, hr_o0, e7]; omega), if_neg (by rw [hr_e0, hr_o0, e9]; omega), if_pos (by rw [hr_n0, hE.1.1]; omega), if_pos (by rw [hr_n0]; exact hb), if_pos (by rw [hr_lt, hb8, e8]; omega)]
    unfold hq_193_57
    rw [hb8, hr_nat ek]
    unfold hq_193_67
    rw [hr_wz _ _ _ _ _ _ (by omega), hb8, hr_nat ek]
    unfold hq_193_77
    rw [hr_wz _ _ _ _ _ _ (by omega), hr_wz _ _ _ _ _ _ (by omega), hb8, hr_nat ek]
    unfold hq_193_92
    rw [hr_wz _ _ _ _ _ _ (by omega), hr_wz _ _ _ _ _ _ (by omega), hr_wz _ _ _ _ _ _ (by omega), hb8]
    unfold hq_193_102
    rw [hr_nat ek, hr_wz _ _ _ _ _ _ (by omega), hr_wz _ _ _ _ _ _ (by omega), hr_wz _ _ _ _ _ _ (by omega), hr_wz _ _ _ _ _ _ (by omega), hb8, hr_w0s, um]
    exact ⟨_, rfl⟩
  obtain ⟨v, cls⟩ := cls
  rw [cls, e104]
  dsimp only
  refine ⟨rfl, by rw [hr_us]; exact um, ?_, ?_, ?_⟩
  · refine hr_Eaddh hE hk8 ek (fun j j0 jk => ?_) (by rw [hr_us]; exact up1) (fun i j hi h0 hp => ?_) ?_ ?_ ?_ ?_ ?_
    · rw [hr_ub (by omega), hr_ub (by omega), hr_ub (by omega), hr_ub (by omega), hr_ub (by omega)]
    · rw [hr_w0 _ _ _ _ _ _ (by omega), hr_wb _ _ _ _ _ _ _ (by omega), hr_wb _ _ _ _ _ _ _ (by omega), hr_wb _ _ _ _ _ _ _ (by omega), hr_wb _ _ _ _ _ _ _ (by omega)]
    · rw [hr_w0s, hr_us]
    · rw [hr_w0 _ _ _ _ _ _ (by omega), hr_wb _ _ _ _ _ _ _ (by omega), hr_wb _ _ _ _ _ _ _ (by omega), hr_wb _ _ _ _ _ _ _ (by omega), hr_wc, hr_ub (by omega), hr_ub (by omega), hr_ub (by omega), hr_ub (by omega), hr_us]
    · rw [hr_w0 _ _ _ _ _ _ (by omega), hr_wb _ _ _ _ _ _ _ (by omega), hr_wb _ _ _ _ _ _ _ (by omega), hr_wc, hr_ub (by omega), hr_ub (by omega), hr_ub (by omega), hr_us]
    · rw [hr_w0 _ _ _ _ _ _ (by omega), hr_wb _ _ _ _ _ _ _ (by omega), hr_wc, hr_ub (by omega), hr_ub (by omega), hr_us]
    · rw [hr_ub (by omega), hr_ub (by omega), hr_us]; exact hp9
  · refine hr_okaddh ho hk8 ek (fun j j0 jk => ?_) (by rw [hr_us]; exact up1) ⟨?_, ?_, ?_, ?_⟩
    · rw [hr_ub (by omega), hr_ub (by omega), hr_ub (by omega), hr_ub (by omega), hr_ub (by omega)]
    · rw [hr_ub (by omega), hr_ub (by omega), hr_ub (by omega), hr_ub (by omega), hr_us]; exact ha
    · rw [hr_ub (by omega), hr_ub (by omega), hr_ub (by omega), hr_us]; exact hg
    · rw [hr_ub (by omega), hr_ub (by omega), hr_us]; exact hp9
    · rw [hr_ub (by omega), hr_ub (by omega), hr_us]; exact hp
  · rw [hr_ub (by omega), hr_ub (by omega), hr_ub (by omega), hr_ub (by omega), hr_ub (by omega)]
end HR

