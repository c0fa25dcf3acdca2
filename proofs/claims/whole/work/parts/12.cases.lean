/-! what a form of code can be -/
section
variable {T : Nat → Nat} {n p e j k py px np nc : Nat} {FY RY FX RX : Nat → Int64} {M : Nat → Nat → Prop}
theorem cd_atom {t : Nat} (h : zv_tk t) (h3 : 3 ≤ t) : (∃ a s k, k < 4294967296 ∧ ((a = 0 ∧ s = 0) ∨ (a = 1 ∧ s = 4 ∧ k < 2)) ∧ t < 30 ∧ zv_yA t = zv_c a k ∧ zv_xA t = zv_c s k) ∨ (30 ≤ t ∧ zv_yA t = zv_c 4 t ∧ zv_xA t = zv_c 1 t) := by
  unfold zv_yA zv_xA
  unfold zv_tk at h
  by_cases c : t < 10
  · rw [if_pos c, if_pos c]
    refine Or.inl ⟨1, 4, _, ?_, Or.inr ⟨rfl, rfl, ?_⟩, by omega, rfl, rfl⟩ <;> split <;> omega
  · rw [if_neg c, if_neg c]
    by_cases d : t < 30
    · rw [if_pos d, if_pos d]
      exact Or.inl ⟨0, 0, _, by omega, Or.inl ⟨rfl, rfl⟩, d, rfl, rfl⟩
    · rw [if_neg d, if_neg d]
      exact Or.inr ⟨by omega, rfl, rfl⟩
theorem cd_cases (hR : pz_Rd T n) (hn : n ≤ 70) (hT : ∀ i, i < n → zv_tk (T i)) (hc : cd_OK T n FY RY FX RX) (hp : hp_OK T n M np nc py px FY RY FX RX) (hM : ∀ p q, cd_M T n p q → M p q)
    (hj : j < n) (h1 : T j ≠ 1) (hC : pz_CF T j) :
    (∃ t s k, k < 4294967296 ∧ ((t = 0 ∧ s = 0) ∨ (t = 1 ∧ s = 4 ∧ k < 2)) ∧ cd_yv T n j = zv_c t k ∧ cd_xv T n j = zv_c s k) ∨
    (∃ k, 30 ≤ k ∧ k ≤ 39 ∧ cd_yv T n j = zv_c 4 k ∧ cd_xv T n j = zv_c 1 k) ∨
    (∃ k, 50 ≤ k ∧ k ≤ 64 ∧ cd_yv T n j = zv_c 4 k ∧ cd_xv T n j = zv_c 1 k) ∨
    ((cd_yv T n j = zv_c 2 0 ∧ cd_xv T n j = zv_c 3 0) ∨ ∃ k, 40 ≤ k ∧ k ≤ 45 ∧ cd_yv T n j = zv_c 4 k ∧ cd_xv T n j = zv_c 1 k) ∨
    (∃ a b h, a < py ∧ b < px ∧ cd_yv T n j = zv_c 3 a ∧ cd_xv T n j = zv_c 2 b ∧ h < n ∧ T h ≠ 1 ∧ pz_CF T h ∧ FY a = cd_yv T n h ∧ FX b = cd_xv T n h ∧ RY a = cd_yl T n (pz_nx T n h) ∧ RX b = cd_xl T n (pz_nx T n h) ∧ ls_P T n (pz_nx T n h) ∧ ¬ (40 ≤ T h ∧ T h ≤ 45)) ∨
    (∃ a b w, a < py ∧ b < px ∧ cd_yv T n j = zv_c 3 a ∧ cd_xv T n j = zv_c 2 b ∧ FY a = zv_c 4 w ∧ FX b = zv_c 1 w ∧
      ((w = 40 ∧ ∃ k, ch_N RY (zv_c 3) (zv_c 2 0) py k (RY a) ∧ ch_N RX (zv_c 2) (zv_c 3 0) px k (RX b) ∧ (k = 1 → ∃ a' b', a' < py ∧ b' < px ∧ RY a = zv_c 3 a' ∧ RX b = zv_c 2 b' ∧ zv_V M np nc (FY a') (FX b'))) ∨
       (40 < w ∧ w ≤ 45 ∧ ∃ p, ls_P T n p ∧ RY a = cd_yl T n p ∧ RX b = cd_xl T n p))) := by
  have hb := hp.2.2.2.2.2
  by_cases c0 : T j = 0
  · obtain ⟨d1, d2, d3, d4, d5⟩ := cd_in hR hj c0 hC
    rw [cd_yv_0 c0, cd_xv_0 c0]
    by_cases c1 : T (j + 1) = 1
    · have z : ¬ (j + 1 < n ∧ T (j + 1) ≠ 1) := fun z => z.2 c1
      rw [cd_yl_e z, cd_xl_e z]
      exact Or.inr (Or.inr (Or.inr (Or.inl (Or.inl ⟨rfl, rfl⟩))))
    · obtain ⟨e1, e2, e3, e4, e5, e6⟩ := cd_cell hc hb d1 c1 d2 d3
      rw [cd_yl_p d1 c1, cd_xl_p d1 c1]
      obtain ⟨f1, f2⟩ := pz_nx_ok hR d1 c1
      by_cases w : 40 ≤ T (j + 1) ∧ T (j + 1) ≤ 45
      · have hA := cd_yv_a (T := T) (n := n) (j := j + 1) (by omega)
        have hB := cd_xv_a (T := T) (n := n) (j := j + 1) (by omega)
        have g : zv_yA (T (j + 1)) = zv_c 4 (T (j + 1)) ∧ zv_xA (T (j + 1)) = zv_c 1 (T (j + 1)) := by
          unfold zv_yA zv_xA
          rw [if_neg (by omega), if_neg (by omega), if_neg (by omega), if_neg (by omega)]
          exact ⟨rfl, rfl⟩
        refine Or.inr (Or.inr (Or.inr (Or.inr (Or.inr ⟨_, _, T (j + 1), e1, e2, rfl, rfl, by rw [e3, hA, g.1], by rw [e5, hB, g.2], ?_⟩))))
        by_cases w4 : T (j + 1) = 40
        · refine Or.inl ⟨w4, ?_⟩
          have q := d5 w4
          have q2 := (pz_QC_e f2).mpr q
          have q3 := pz_QC_nD0 q2
          have q4 := pz_Fm_nmk f2
          obtain ⟨k, k1, _⟩ := pz_Ln_ex hR _ (pz_nx T n (j + 1)) rfl f1
          rw [e4, e6]
          refine ⟨k, cd_chY hR hc hb _ _ k1 q4 q3, cd_chX hR hc hb _ _ k1 q4 q3, fun k9 => ?_⟩
          subst k9
          obtain ⟨k2, k3, _⟩ := k1
          obtain ⟨r1, r2, r3, r4, r5, r6⟩ := cd_cell hc hb k2 k3 q4 q3
          refine ⟨_, _, r1, r2, cd_yl_p k2 k3, cd_xl_p k2 k3, ?_⟩
          rw [r3, r5]
          exact zv_V_mono hM (Nat.le_refl _) (Nat.le_refl _) (cd_Vv hR hn hT k2 k3 (fun z => pz_QC_nCL q2 z.2))
        · refine Or.inr ⟨by omega, w.2, pz_nx T n (j + 1), ls_nx hR (d4 w4) d1 c1, e4, e6⟩
      · have l := d4 (by omega)
        exact Or.inr (Or.inr (Or.inr (Or.inr (Or.inl ⟨_, _, j + 1, e1, e2, rfl, rfl, d1, c1, ls_CF l, e3, e5, e4, e6, ls_nx hR l d1 c1, w⟩))))
  · by_cases c2 : T j = 2
    · obtain ⟨⟨a1, a2, a3, a4⟩, b1, b2, b3, b4⟩ := hc.2 j hj c2 hC
      have g1 := hb 1 j ⟨hj, Or.inr ⟨Or.inl rfl, c2⟩⟩
      have g2 := hb 2 j ⟨hj, Or.inr ⟨Or.inr rfl, c2⟩⟩
      have hj1 : j + 1 < n := by
        by_cases z : j + 1 = n
        · exact absurd (z ▸ pz_mk_s.mpr c2) hR.2.2
        · omega
      have hj2 : T (j + 1) ≠ 1 := fun z => (hR.1 (j + 1) hj1 z).2 (pz_mk_s.mpr c2)
      refine Or.inr (Or.inr (Or.inr (Or.inr (Or.inr ⟨_, _, 40, g1.1, g1.2, cd_yv_2 c2, cd_xv_2 c2, a1, b1, Or.inl ⟨rfl, 1, ⟨_, g2.1, a2, a4⟩, ⟨_, g2.2, b2, b4⟩, fun _ => ⟨_, _, g2.1, g2.2, a2, b2, ?_⟩⟩⟩))))
      rw [a3, b3]
      exact zv_V_mono hM (Nat.le_refl _) (Nat.le_refl _) (cd_Vv hR hn hT hj1 hj2 (fun z => z.1 (pz_mk_s.mpr c2)))
    · have h3 : 3 ≤ T j := by omega
      rw [cd_yv_a h3, cd_xv_a h3]
      rcases cd_atom (hT j hj) h3 with ⟨a, s, k, k1, k2, _, k3, k4⟩ | ⟨k1, k2, k3⟩
      · exact Or.inl ⟨a, s, k, k1, k2, k3, k4⟩
      · have ht := hT j hj
        unfold zv_tk at ht
        by_cases u1 : T j ≤ 39
        · exact Or.inr (Or.inl ⟨_, k1, u1, k2, k3⟩)
        · by_cases u2 : T j ≤ 45
          · exact Or.inr (Or.inr (Or.inr (Or.inl (Or.inr ⟨_, by omega, u2, k2, k3⟩))))
          · exact Or.inr (Or.inr (Or.inl ⟨_, by omega, by omega, k2, k3⟩))
end
