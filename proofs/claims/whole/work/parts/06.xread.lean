/-! X reads from the right: what stands when the tokens from i on are read, and one token more -/
def xr_I (T : Nat → Nat) (n i : Nat) (OL F R : Nat → Int64) : Prop :=
  (∀ k c, k < pz_dd T i → i ≤ c → c < n → pz_dd T (c + 1) = k → (∀ j, i ≤ j → j ≤ c → k < pz_dd T j) → OL k = cd_xl T n (c + 1)) ∧
  (∀ p, i ≤ p → p < n → T p ≠ 1 → (p = i ∨ ¬ pz_mk T p) → F (pz_AX T n 0 p) = cd_xv T n p ∧ R (pz_AX T n 0 p) = cd_xl T n (pz_nx T n p)) ∧
  (∀ j, i ≤ j → j < n → T j = 2 → F (pz_AX T n 1 j) = zv_c 1 40 ∧ R (pz_AX T n 1 j) = zv_c 2 (pz_AX T n 2 j) ∧ F (pz_AX T n 2 j) = cd_xv T n (j + 1) ∧ R (pz_AX T n 2 j) = zv_c 3 0)
section
variable {T : Nat → Nat} {n i : Nat} {OL F R : Nat → Int64}
theorem pz_base {p : Nat} (hR : pz_Rd T n) (hp : p < n) (h1 : T p ≠ 1) : ∃ b, pz_bs T n p = b ∧ p ≤ b ∧ b < n ∧ (∀ j, p ≤ j → j < b → T j = 2) ∧ T b ≠ 2 ∧ T b ≠ 1 ∧ pz_W T (b + 1) = pz_W T b + 1 := by
  obtain ⟨e, he, hF⟩ := pz_Fm_ex hR hp h1
  obtain ⟨_, b, hb, a1, a2, a3, a4⟩ := pz_nx_eq hF he
  refine ⟨b, hb, a1, by omega, a3, by omega, by omega, ?_⟩
  rw [pz_W, pz_w, if_neg (by omega), if_neg (by omega)]
theorem xr_0l {p : Nat} (hR : pz_Rd T n) (hi : i < p) (hp : p < n) (h1 : T p ≠ 1) : pz_AX T n 0 p < pz_W T n - pz_W T (i + 1) := by
  obtain ⟨b, hb, a1, a2, _, _, _, a6⟩ := pz_base hR hp h1
  have m1 := pz_W_mono (T := T) (show i + 1 ≤ b by omega)
  have m2 := pz_W_mono (T := T) (show b + 1 ≤ n by omega)
  simp only [pz_AX, hb]
  omega
theorem xr_2l {j : Nat} (hi : i < j) (hj : j < n) (h2 : T j = 2) : pz_AX T n 1 j < pz_W T n - pz_W T (i + 1) ∧ pz_AX T n 2 j < pz_W T n - pz_W T (i + 1) := by
  have m1 := pz_W_mono (T := T) (show i + 1 ≤ j by omega)
  have m2 := pz_W_mono (T := T) (show j + 1 ≤ n by omega)
  have hw : pz_W T (j + 1) = pz_W T j + 2 := by rw [pz_W, pz_w, if_neg (by omega), if_pos h2]
  simp only [pz_AX]
  omega
/-- where the list stands that a "(" takes up -/
theorem xr_nx (hR : pz_Rd T n) (hi : i < n) (h0 : T i = 0) : ∃ c, pz_nx T n i = c + 1 ∧ i < c ∧ c < n ∧ pz_dd T (c + 1) = pz_dd T i ∧ (∀ j, i + 1 ≤ j → j ≤ c → pz_dd T i < pz_dd T j) := by
  obtain ⟨e, he, hF⟩ := pz_Fm_ex hR hi (by omega)
  obtain ⟨hn, b, hb, a1, a2, a3, a4⟩ := pz_nx_eq hF he
  have hbi : b = i := by
    by_cases z : i < b
    · have := a3 i (Nat.le_refl _) z; omega
    · omega
  subst hbi
  rcases a4 with ⟨a5, _⟩ | ⟨_, a6, a7, a8, a9⟩
  · omega
  · refine ⟨e - 1, by omega, by omega, by omega, ?_, fun j k1 k2 => a9 j (by omega) (by omega)⟩
    rw [show e - 1 + 1 = e by omega, a8]
theorem xr_start : xr_I T n n OL F R := by
  refine ⟨fun k c h1 h2 h3 => by omega, fun p h1 h2 => by omega, fun j h1 h2 => by omega⟩
theorem xr_1 (hR : pz_Rd T n) (hi : i < n) (h1 : T i = 1) (h : xr_I T n (i + 1) OL F R) : pz_dd T i = pz_dd T (i + 1) + 1 ∧ xr_I T n i (vp_updL OL (pz_dd T (i + 1)) (cd_xl T n (i + 1))) F R := by
  have hd := pz_dd_c h1
  have h0 := (hR.1 i hi h1).1
  refine ⟨by omega, fun k c a1 a2 a3 a4 a5 => ?_, fun p a1 a2 a3 a4 => ?_, fun j a1 a2 a3 => ?_⟩
  · by_cases z : k = pz_dd T (i + 1)
    · have hc : c = i := by
        by_cases y : i + 1 ≤ c
        · have := a5 (i + 1) (by omega) y; omega
        · omega
      rw [z, hc, pk_uLs]
    · have hc : i + 1 ≤ c := by
        by_cases y : c = i
        · subst y; omega
        · omega
      rw [pk_uLn z]
      exact h.1 k c (by omega) hc a3 a4 (fun j b1 b2 => a5 j (by omega) b2)
  · have hp : p ≠ i := fun z => a3 (z ▸ h1)
    exact h.2.1 p (by omega) a2 a3 (Or.inr (a4.resolve_left hp))
  · have hp : j ≠ i := fun z => by rw [z, h1] at a3; omega
    exact h.2.2 j (by omega) a2 a3
theorem xr_new (hR : pz_Rd T n) (hi : i < n) (h2 : T i ≠ 2) (h1 : T i ≠ 1) (hd : pz_dd T i ≤ pz_dd T (i + 1)) (hj : ∀ k, k < pz_dd T i → k < pz_dd T (i + 1))
    (h : xr_I T n (i + 1) OL F R) : xr_I T n i OL (vp_updL F (pz_W T n - pz_W T (i + 1)) (cd_xv T n i)) (vp_updL R (pz_W T n - pz_W T (i + 1)) (cd_xl T n (pz_nx T n i))) := by
  refine ⟨fun k c a1 a2 a3 a4 a5 => ?_, fun p a1 a2 a3 a4 => ?_, fun j a1 a2 a3 => ?_⟩
  · have hc : c ≠ i := by
      intro z
      subst z
      omega
    exact h.1 k c (by omega) (by omega) a3 a4 (fun j b1 b2 => a5 j (by omega) b2)
  · by_cases z : p = i
    · subst z
      have hA : pz_AX T n 0 p = pz_W T n - pz_W T (p + 1) := by simp only [pz_AX, pz_bs_n h2]
      rw [hA, pk_uLs, pk_uLs]
      exact ⟨rfl, rfl⟩
    · have hl := xr_0l hR (show i < p by omega) a2 a3
      rw [pk_uLn (by omega), pk_uLn (by omega)]
      exact h.2.1 p (by omega) a2 a3 (Or.inr (a4.resolve_left z))
  · have z : j ≠ i := fun z => h2 (z ▸ a3)
    have hl := xr_2l (show i < j by omega) a2 a3
    rw [pk_uLn (by omega), pk_uLn (by omega), pk_uLn (by omega), pk_uLn (by omega)]
    exact h.2.2 j (by omega) a2 a3
theorem xr_l (hi : i < n) (h2 : T i ≠ 2) (h1 : T i ≠ 1) : cd_xl T n i = zv_c 2 (pz_W T n - pz_W T (i + 1)) := by
  unfold cd_xl pz_lst
  rw [if_pos ⟨hi, h1⟩]
  simp only [pz_AX, pz_bs_n h2]
theorem xr_l1 (h1 : T i = 1) : cd_xl T n i = zv_c 3 0 := by
  unfold cd_xl pz_lst
  rw [if_neg (fun z => z.2 h1)]
theorem xr_ln : cd_xl T n n = zv_c 3 0 := by
  unfold cd_xl pz_lst
  rw [if_neg (fun z => by omega)]
theorem xr_0 (hR : pz_Rd T n) (hi : i < n) (h0 : T i = 0) (h : xr_I T n (i + 1) OL F R) : pz_dd T (i + 1) = pz_dd T i + 1 ∧ OL (pz_dd T i) = cd_xl T n (pz_nx T n i) ∧ cd_xv T n i = cd_xl T n (i + 1) ∧
    xr_I T n i OL (vp_updL F (pz_W T n - pz_W T (i + 1)) (cd_xl T n (i + 1))) (vp_updL R (pz_W T n - pz_W T (i + 1)) (cd_xl T n (pz_nx T n i))) := by
  have hd := pz_dd_o h0
  obtain ⟨c, hn, c1, c2, c3, c4⟩ := xr_nx hR hi h0
  have hv : cd_xv T n i = cd_xl T n (i + 1) := by
    unfold cd_xv pz_val
    rw [if_pos h0]
    rfl
  refine ⟨hd, ?_, hv, ?_⟩
  · rw [hn]
    exact h.1 _ c (by omega) (by omega) c2 c3 c4
  · rw [← hv]
    exact xr_new hR hi (by omega) (by omega) (by omega) (fun k hk => by omega) h
theorem xr_a (hR : pz_Rd T n) (hi : i < n) (h3 : 3 ≤ T i) (h : xr_I T n (i + 1) OL F R) : pz_dd T (i + 1) = pz_dd T i ∧
    xr_I T n i OL (vp_updL F (pz_W T n - pz_W T (i + 1)) (zv_xA (T i))) (vp_updL R (pz_W T n - pz_W T (i + 1)) (cd_xl T n (i + 1))) := by
  have hd := pz_dd_a (T := T) (i := i) (by omega) (by omega)
  have hv : cd_xv T n i = zv_xA (T i) := by
    unfold cd_xv pz_val
    rw [if_neg (by omega), if_neg (by omega)]
  have hn : pz_nx T n i = i + 1 := by
    unfold pz_nx
    rw [pz_bs_n (by omega), if_neg (by omega)]
  have := xr_new hR hi (by omega) (by omega) (by omega) (fun k hk => by omega) h
  rw [hv, hn] at this
  exact ⟨hd, this⟩
theorem xr_2 (hR : pz_Rd T n) (hi : i < n) (h2 : T i = 2) (h : xr_I T n (i + 1) OL F R) : pz_dd T (i + 1) = pz_dd T i ∧ i + 1 < n ∧ T (i + 1) ≠ 1 ∧ cd_xl T n (i + 1) = zv_c 2 (pz_AX T n 0 (i + 1)) ∧ cd_xl T n i = zv_c 2 (pz_AX T n 0 (i + 1)) ∧
    pz_AX T n 0 (i + 1) < pz_W T n - pz_W T (i + 1) ∧ F (pz_AX T n 0 (i + 1)) = cd_xv T n (i + 1) ∧
    xr_I T n i OL (vp_updL (vp_updL (vp_updL F (pz_W T n - pz_W T (i + 1)) (cd_xv T n (i + 1))) (pz_W T n - pz_W T (i + 1) + 1) (zv_c 1 40)) (pz_AX T n 0 (i + 1)) (zv_c 2 (pz_W T n - pz_W T (i + 1) + 1)))
      (vp_updL (vp_updL R (pz_W T n - pz_W T (i + 1)) (zv_c 3 0)) (pz_W T n - pz_W T (i + 1) + 1) (zv_c 2 (pz_W T n - pz_W T (i + 1)))) := by
  have hd := pz_dd_a (T := T) (i := i) (by omega) (by omega)
  have hi1 : i + 1 < n := by
    by_cases z : i + 1 = n
    · exact absurd (z ▸ pz_mk_s.mpr h2) hR.2.2
    · omega
  have h11 : T (i + 1) ≠ 1 := fun z => (hR.1 (i + 1) hi1 z).2 (pz_mk_s.mpr h2)
  have hA : pz_AX T n 0 i = pz_AX T n 0 (i + 1) := by simp only [pz_AX, pz_bs_s hi h2]
  have hl := xr_0l hR (show i < i + 1 by omega) hi1 h11
  have hv : cd_xv T n i = zv_c 2 (pz_W T n - pz_W T (i + 1) + 1) := by
    unfold cd_xv pz_val
    rw [if_neg (by omega), if_pos h2]
    rfl
  obtain ⟨f1, f2⟩ := h.2.1 (i + 1) (Nat.le_refl _) hi1 h11 (Or.inl rfl)
  obtain ⟨b, hb, b1, b2, b3, b4, b5, b6⟩ := pz_base hR hi1 h11
  have hAb : pz_AX T n 0 (i + 1) = pz_W T n - pz_W T (b + 1) := by simp only [pz_AX, hb]
  have mb := pz_W_mono (T := T) (show b + 1 ≤ n by omega)
  refine ⟨hd, hi1, h11, ?_, ?_, hl, f1, fun k c a1 a2 a3 a4 a5 => ?_, fun p a1 a2 a3 a4 => ?_, fun j a1 a2 a3 => ?_⟩
  · unfold cd_xl pz_lst
    rw [if_pos ⟨hi1, h11⟩]
  · unfold cd_xl pz_lst
    rw [if_pos ⟨hi, by omega⟩, hA]
  · have hc : c ≠ i := by
      intro z
      subst z
      omega
    exact h.1 k c (by omega) (by omega) a3 a4 (fun j b1 b2 => a5 j (by omega) b2)
  · by_cases z : p = i
    · subst z
      rw [hA, pk_uLs, pk_uLn (by omega), pk_uLn (by omega), f2, hv, pz_nx_q hi h2]
      exact ⟨rfl, rfl⟩
    · have hm := a4.resolve_left z
      have hl2 := xr_0l hR (show i < p by omega) a2 a3
      have hpb : b < p := by
        by_cases y : b < p
        · exact y
        · have y1 : p ≠ i + 1 := fun y1 => hm (y1 ▸ pz_mk_s.mpr h2)
          exact absurd ⟨by omega, b3 (p - 1) (by omega) (by omega)⟩ hm
      have hl3 := xr_0l hR hpb a2 a3
      rw [pk_uLn (by omega), pk_uLn (by omega), pk_uLn (by omega), pk_uLn (by omega), pk_uLn (by omega)]
      exact h.2.1 p (by omega) a2 a3 (Or.inr hm)
  · by_cases z : j = i
    · subst z
      have e1 : pz_AX T n 1 j = pz_W T n - pz_W T (j + 1) + 1 := rfl
      have e2 : pz_AX T n 2 j = pz_W T n - pz_W T (j + 1) := rfl
      rw [e1, e2]
      refine ⟨?_, ?_, ?_, ?_⟩
      · rw [pk_uLn (by omega), pk_uLs]
      · rw [pk_uLs]
      · rw [pk_uLn (by omega), pk_uLn (by omega), pk_uLs]
      · rw [pk_uLn (by omega), pk_uLs]
    · have hl2 := xr_2l (show i < j by omega) a2 a3
      have e1 : pz_AX T n 1 j = pz_W T n - pz_W T (j + 1) + 1 := rfl
      have e2 : pz_AX T n 2 j = pz_W T n - pz_W T (j + 1) := rfl
      have hw : pz_W T (j + 1) = pz_W T j + 2 := by rw [pz_W, pz_w, if_neg (by omega), if_pos a3]
      have hn1 : pz_AX T n 1 j ≠ pz_AX T n 0 (i + 1) ∧ pz_AX T n 2 j ≠ pz_AX T n 0 (i + 1) := by
        have mj := pz_W_mono (T := T) (show j + 1 ≤ n by omega)
        by_cases y : j < b
        · have := pz_W_mono (T := T) (show j + 1 ≤ b by omega)
          omega
        · have y2 : j ≠ b := fun y2 => b4 (y2 ▸ a3)
          have := pz_W_mono (T := T) (show b + 1 ≤ j by omega)
          omega
      rw [pk_uLn hn1.1, pk_uLn hn1.2, pk_uLn (by omega), pk_uLn (by omega), pk_uLn (by omega), pk_uLn (by omega), pk_uLn (by omega), pk_uLn (by omega), pk_uLn (by omega), pk_uLn (by omega)]
      exact h.2.2 j (by omega) a2 a3
/-- all read: the description of X's pairs -/
theorem xr_end (h : xr_I T n 0 OL F R) : cd_De T n (pz_AX T n) (zv_c 2) (zv_c 3 0) zv_xA F R :=
  ⟨fun p h1 h2 h3 => h.2.1 p (by omega) h1 h2 (Or.inr h3), fun j h1 h2 => h.2.2 j (by omega) h1 h2⟩
end
