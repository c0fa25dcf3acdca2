/-! Y reads from the left with a stack of what is begun: what stands when the tokens before t are read -/
def yr_s (o : Nat → Nat) (k : Nat) : Nat := if k = 0 then 0 else o k + 1
def yr_sg (T : Nat → Nat) (n : Nat) (o : Nat → Nat) (H L : Nat → Int32) (k : Nat) : Prop :=
  (1 ≤ k ∧ T (o k) = 2 ∧ H k = -2 ∧ o (k + 1) = o k + 1) ∨
  ((k = 0 ∨ T (o k) = 0) ∧ yr_s o k ≤ o (k + 1) ∧ pz_dd T (o (k + 1)) = pz_dd T (yr_s o k) ∧ (∀ j, yr_s o k ≤ j → j ≤ o (k + 1) → pz_dd T (yr_s o k) ≤ pz_dd T j) ∧
    ((yr_s o k = o (k + 1) ∧ H k = -1 ∧ L k = -1) ∨
     (∃ e p, pz_Fm T (yr_s o k) e ∧ e ≤ o (k + 1) ∧ pz_Fm T p (o (k + 1)) ∧ yr_s o k ≤ p ∧ ¬ pz_mk T p ∧ H k = nI (pz_AY T n 0 (yr_s o k)) ∧ L k = nI (pz_AY T n 0 p))))
def yr_H (T : Nat → Nat) (n t : Nat) (F R : Nat → Int64) : Prop :=
  (∀ p e, pz_Fm T p e → e ≤ t → ¬ pz_mk T p → F (pz_AY T n 0 p) = cd_yv T n p ∧ ((∃ e', e' ≤ t ∧ pz_Fm T e e') → R (pz_AY T n 0 p) = zv_c 3 (pz_AY T n 0 e)) ∧ ((¬ ∃ e', e' ≤ t ∧ pz_Fm T e e') → R (pz_AY T n 0 p) = zv_c 2 0)) ∧
  (∀ j e, T j = 2 → pz_Fm T j e → e ≤ t → F (pz_AY T n 1 j) = zv_c 4 40 ∧ R (pz_AY T n 1 j) = zv_c 3 (pz_AY T n 2 j) ∧ F (pz_AY T n 2 j) = cd_yv T n (j + 1) ∧ R (pz_AY T n 2 j) = zv_c 2 0)
section
variable {T : Nat → Nat} {n t k p b e : Nat} {o : Nat → Nat} {H L : Nat → Int32} {F R F' R' : Nat → Int64}
theorem yr_ad {j : Nat} (h : pz_Fm T j e) (he : e ≤ n) : ∃ b, j ≤ b ∧ b < e ∧ (∀ i, j ≤ i → i < b → T i = 2) ∧ T b ≠ 2 ∧ pz_cb T (e - 1) = b ∧ pz_P T e = pz_P T (e - 1) + (1 + 2 * pz_qn T b) ∧ b - j ≤ pz_qn T b ∧
    pz_AY T n 0 j = pz_P T (e - 1) + 2 * pz_qn T b ∧ pz_AY T n 1 j = pz_P T (e - 1) + 2 * (b - 1 - j) + 1 ∧ pz_AY T n 2 j = pz_P T (e - 1) + 2 * (b - 1 - j) := by
  obtain ⟨hn, b, hb, a1, a2, a3, a4⟩ := pz_nx_eq h he
  have hP := pz_P_s a4
  refine ⟨b, a1, a2, a3, by omega, pz_cb_eq a4, hP, pz_qn_ge a3 a1, ?_, ?_, ?_⟩
  · simp only [pz_AY, hn]; omega
  · simp only [pz_AY, hn, hb]
  · simp only [pz_AY, hn, hb]
theorem yr_lt {j : Nat} (h : pz_Fm T j e) (he : e ≤ n) (ht : e ≤ t) : pz_AY T n 0 j < pz_P T t := by
  obtain ⟨b, _, _, _, _, _, h1, _, h2, _⟩ := yr_ad h he
  have := pz_P_mono (T := T) ht
  omega
theorem yr_lt2 {j : Nat} (h : pz_Fm T j e) (he : e ≤ n) (ht : e ≤ t) (h2 : T j = 2) : pz_AY T n 1 j < pz_P T t ∧ pz_AY T n 2 j < pz_P T t := by
  obtain ⟨b, a1, a2, a3, a4, _, h1, h3, _, h4, h5⟩ := yr_ad h he
  have := pz_P_mono (T := T) ht
  have : j ≠ b := fun z => a4 (z ▸ h2)
  omega
/-- two forms that end together have one base; if none is marked they are one -/
theorem yr_same {j j' : Nat} (h : pz_Fm T j e) (h' : pz_Fm T j' e) (hm : ¬ pz_mk T j) (hm' : ¬ pz_mk T j') : j = j' := by
  obtain ⟨b, a1, a2, a3, a4, a5, _⟩ := yr_ad h (Nat.le_refl _)
  obtain ⟨b', c1, c2, c3, c4, c5, _⟩ := yr_ad h' (Nat.le_refl _)
  have hb : b = b' := a5.symm.trans c5
  subst hb
  exact pz_run_eq a3 c3 a1 c1 hm hm'
theorem yr_sep {j j' e' : Nat} (h : pz_Fm T j e) (h' : pz_Fm T j' e') (he : e ≤ n) (he' : e' ≤ n) (hne : e ≠ e') : pz_AY T n 0 j ≠ pz_AY T n 0 j' ∧ (T j' = 2 → pz_AY T n 0 j ≠ pz_AY T n 1 j' ∧ pz_AY T n 0 j ≠ pz_AY T n 2 j') := by
  obtain ⟨b, a1, a2, a3, a4, a5, a6, a7, a8, a9, a10⟩ := yr_ad h he
  obtain ⟨b', c1, c2, c3, c4, c5, c6, c7, c8, c9, c10⟩ := yr_ad h' he'
  have hj : T j' = 2 → j' ≠ b' := fun z y => c4 (y ▸ z)
  by_cases z : e < e'
  · have := pz_P_mono (T := T) (show e ≤ e' - 1 by omega)
    exact ⟨by omega, fun y => by have := hj y; omega⟩
  · have := pz_P_mono (T := T) (show e' ≤ e - 1 by omega)
    exact ⟨by omega, fun y => by have := hj y; omega⟩
theorem yr_sep2 {j j' : Nat} (h : pz_Fm T j e) (h' : pz_Fm T j' e) (he : e ≤ n) (h2 : T j' = 2) : pz_AY T n 0 j ≠ pz_AY T n 1 j' ∧ pz_AY T n 0 j ≠ pz_AY T n 2 j' := by
  obtain ⟨b, a1, a2, a3, a4, a5, a6, a7, a8, a9, a10⟩ := yr_ad h he
  obtain ⟨b', c1, c2, c3, c4, c5, c6, c7, c8, c9, c10⟩ := yr_ad h' he
  have hb : b = b' := a5.symm.trans c5
  subst hb
  have : j' ≠ b := fun z => c4 (z ▸ h2)
  omega
/-- the form with base b, begun at p, is put: no pair of its list stood before -/
theorem yr_put0 (h : yr_H T n t F R) (hn : t + 1 ≤ n) (hp : pz_Fm T p (t + 1)) (hm : ¬ pz_mk T p) (hno : ∀ q, ¬ pz_Fm T q p)
    (hF : ∀ a, a < pz_P T t → F' a = F a) (hR : ∀ a, a < pz_P T t → R' a = R a)
    (hQ : ∀ j, T j = 2 → p ≤ j → pz_Fm T j (t + 1) → F' (pz_AY T n 1 j) = zv_c 4 40 ∧ R' (pz_AY T n 1 j) = zv_c 3 (pz_AY T n 2 j) ∧ F' (pz_AY T n 2 j) = cd_yv T n (j + 1) ∧ R' (pz_AY T n 2 j) = zv_c 2 0)
    (hE : F' (pz_AY T n 0 p) = cd_yv T n p ∧ R' (pz_AY T n 0 p) = zv_c 2 0) : yr_H T n (t + 1) F' R' := by
  have hlast : ∀ e1 e', pz_Fm T e1 e' → e' ≤ t + 1 → ¬ pz_mk T e1 → e1 ≠ p → e' ≤ t := by
    intro e1 e' h1 h2 h3 h4
    by_cases z : e' = t + 1
    · subst z
      exact absurd (yr_same h1 hp h3 hm) h4
    · omega
  constructor
  · intro p1 e1 h1 h2 h3
    by_cases z : e1 = t + 1
    · subst z
      have hpp := yr_same h1 hp h3 hm
      subst hpp
      refine ⟨hE.1, fun ⟨e', a, c⟩ => ?_, fun _ => hE.2⟩
      have := pz_Fm_lt c
      omega
    · have hl := yr_lt (n := n) h1 (by omega) (show e1 ≤ t by omega)
      obtain ⟨g1, g2, g3⟩ := h.1 p1 e1 h1 (by omega) h3
      have hne : e1 ≠ p := fun y => hno p1 (y ▸ h1)
      rw [hF _ hl, hR _ hl]
      refine ⟨g1, fun ⟨e', a, c⟩ => g2 ⟨e', hlast _ _ c a (pz_Fm_nmk h1) hne, c⟩, fun y => g3 (fun ⟨e', a, c⟩ => y ⟨e', by omega, c⟩)⟩
  · intro j e h1 h2 h3
    by_cases z : e = t + 1
    · subst z
      refine hQ j h1 ?_ h2
      obtain ⟨b, a1, a2, a3, a4, a5, _⟩ := yr_ad hp hn
      obtain ⟨b', c1, c2, c3, c4, c5, _⟩ := yr_ad h2 hn
      have hb : b = b' := a5.symm.trans c5
      subst hb
      by_cases y : p ≤ j
      · exact y
      · exact absurd ⟨by omega, c3 (p - 1) (by omega) (by omega)⟩ hm
    · have hl := yr_lt2 (n := n) h2 (by omega) (show e ≤ t by omega) h1
      rw [hF _ hl.1, hR _ hl.1, hF _ hl.2, hR _ hl.2]
      exact h.2 j e h1 h2 (by omega)
/-- the same, and q is the pair before it in its list -/
theorem yr_put1 {q : Nat} (h : yr_H T n t F R) (hn : t + 1 ≤ n) (hp : pz_Fm T p (t + 1)) (hm : ¬ pz_mk T p) (hq : pz_Fm T q p) (hmq : ¬ pz_mk T q)
    (hF : ∀ a, a < pz_P T t → F' a = F a) (hR : ∀ a, a < pz_P T t → R' a = R a)
    (hQ : ∀ j, T j = 2 → p ≤ j → pz_Fm T j (t + 1) → F' (pz_AY T n 1 j) = zv_c 4 40 ∧ R' (pz_AY T n 1 j) = zv_c 3 (pz_AY T n 2 j) ∧ F' (pz_AY T n 2 j) = cd_yv T n (j + 1) ∧ R' (pz_AY T n 2 j) = zv_c 2 0)
    (hE : F' (pz_AY T n 0 p) = cd_yv T n p ∧ R' (pz_AY T n 0 p) = zv_c 2 0) : yr_H T n (t + 1) F' (vp_updL R' (pz_AY T n 0 q) (zv_c 3 (pz_AY T n 0 p))) := by
  have hpt := pz_Fm_lt hp
  have hlast : ∀ e1 e', pz_Fm T e1 e' → e' ≤ t + 1 → ¬ pz_mk T e1 → e1 ≠ p → e' ≤ t := by
    intro e1 e' h1 h2 h3 h4
    by_cases z : e' = t + 1
    · subst z
      exact absurd (yr_same h1 hp h3 hm) h4
    · omega
  constructor
  · intro p1 e1 h1 h2 h3
    by_cases z : e1 = t + 1
    · subst z
      have hpp := yr_same h1 hp h3 hm
      subst hpp
      have hs := (yr_sep (n := n) h1 hq hn (by omega) (by omega)).1
      rw [pk_uLn hs]
      refine ⟨hE.1, fun ⟨e', a, c⟩ => ?_, fun _ => hE.2⟩
      have := pz_Fm_lt c
      omega
    · have hl := yr_lt (n := n) h1 (by omega) (show e1 ≤ t by omega)
      obtain ⟨g1, g2, g3⟩ := h.1 p1 e1 h1 (by omega) h3
      by_cases y : e1 = p
      · subst y
        have hqq := yr_same h1 hq h3 hmq
        subst hqq
        rw [hF _ hl, pk_uLs]
        exact ⟨g1, fun _ => rfl, fun w => absurd ⟨t + 1, Nat.le_refl _, hp⟩ w⟩
      · have hs := (yr_sep (n := n) h1 hq (by omega) (by omega) y).1
        rw [hF _ hl, pk_uLn hs, hR _ hl]
        refine ⟨g1, fun ⟨e', a, c⟩ => g2 ⟨e', hlast _ _ c a (pz_Fm_nmk h1) y, c⟩, fun y => g3 (fun ⟨e', a, c⟩ => y ⟨e', by omega, c⟩)⟩
  · intro j e h1 h2 h3
    have hs : pz_AY T n 1 j ≠ pz_AY T n 0 q ∧ pz_AY T n 2 j ≠ pz_AY T n 0 q := by
      by_cases y : p = e
      · subst y
        have := yr_sep2 (n := n) hq h2 (by omega) h1
        exact ⟨this.1.symm, this.2.symm⟩
      · have := (yr_sep (n := n) hq h2 (by omega) (by omega) y).2 h1
        exact ⟨this.1.symm, this.2.symm⟩
    rw [pk_uLn hs.1, pk_uLn hs.2]
    by_cases z : e = t + 1
    · subst z
      refine hQ j h1 ?_ h2
      obtain ⟨b, a1, a2, a3, a4, a5, _⟩ := yr_ad hp hn
      obtain ⟨b', c1, c2, c3, c4, c5, _⟩ := yr_ad h2 hn
      have hb : b = b' := a5.symm.trans c5
      subst hb
      by_cases y : p ≤ j
      · exact y
      · exact absurd ⟨by omega, c3 (p - 1) (by omega) (by omega)⟩ hm
    · have hl := yr_lt2 (n := n) h2 (by omega) (show e ≤ t by omega) h1
      rw [hF _ hl.1, hR _ hl.1, hF _ hl.2, hR _ hl.2]
      exact h.2 j e h1 h2 (by omega)
theorem yr_H0 : yr_H T n 0 F R := by
  constructor
  · intro p e h1 h2
    have := pz_Fm_lt h1
    omega
  · intro j e _ h1 h2
    have := pz_Fm_lt h1
    omega
/-- a token that ends no form -/
theorem yr_Hs (h : yr_H T n t F R) (ht : T t = 0 ∨ T t = 2) : yr_H T n (t + 1) F R := by
  have hl : ∀ p e, pz_Fm T p e → e ≤ t + 1 → e ≤ t := by
    intro p e h1 h2
    by_cases z : e = t + 1
    · subst z
      have := pz_Fm_last h1
      rw [Nat.add_sub_cancel] at this
      omega
    · omega
  constructor
  · intro p e h1 h2 h3
    obtain ⟨g1, g2, g3⟩ := h.1 p e h1 (hl _ _ h1 h2) h3
    exact ⟨g1, fun ⟨e', a, c⟩ => g2 ⟨e', hl _ _ c a, c⟩, fun y => g3 (fun ⟨e', a, c⟩ => y ⟨e', by omega, c⟩)⟩
  · intro j e h1 h2 h3
    exact h.2 j e h1 h2 (hl _ _ h2 h3)
/-- all read: the description of Y's pairs -/
theorem yr_end (hR : pz_Rd T n) (h : yr_H T n n F R) : cd_De T n (pz_AY T n) (zv_c 3) (zv_c 2 0) zv_yA F R := by
  constructor
  · intro p h1 h2 h3
    obtain ⟨e1, e2⟩ := pz_nx_ok hR h1 h2
    obtain ⟨g1, g2, g3⟩ := h.1 p _ e2 e1 h3
    refine ⟨g1, ?_⟩
    unfold pz_lst
    by_cases c : pz_nx T n p < n ∧ T (pz_nx T n p) ≠ 1
    · rw [if_pos c]
      obtain ⟨e, a1, a2⟩ := pz_Fm_ex hR c.1 c.2
      exact g2 ⟨e, a1, a2⟩
    · rw [if_neg c]
      refine g3 (fun ⟨e', a, d⟩ => c ⟨?_, pz_Fm_n1 d⟩)
      have := pz_Fm_lt d
      omega
  · intro j h1 h2
    obtain ⟨e1, e2⟩ := pz_nx_ok hR h1 (show T j ≠ 1 by omega)
    exact h.2 j _ h2 e2 e1
end
