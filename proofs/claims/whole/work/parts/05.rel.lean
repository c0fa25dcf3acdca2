/-! when a value of Y and a value of X are one; the text's pairs on both sides; code and data -/
def zv_K (M : Nat → Nat → Prop) (np nc t k s l : Nat) : Prop :=
  (t = 0 ∧ s = 0 ∧ l = k) ∨ (t = 1 ∧ s = 4 ∧ l = k ∧ k < 2) ∨ (t = 2 ∧ s = 3 ∧ k = 0 ∧ l = 0) ∨ (t = 3 ∧ s = 2 ∧ M k l) ∨
  (t = 4 ∧ s = 1 ∧ l = k ∧ ((30 ≤ k ∧ k ≤ 45) ∨ (50 ≤ k ∧ k ≤ 64))) ∨ (t = 5 ∧ s = 5 ∧ l = k ∧ k < np) ∨
  (t = 6 ∧ s = 6 ∧ l = k ∧ 50 ≤ k ∧ k ≤ 64) ∨ (t = 7 ∧ s = 7 ∧ l = k ∧ k < nc) ∨ (t = 8 ∧ s = 8 ∧ k = 0 ∧ l = 0)
def zv_V (M : Nat → Nat → Prop) (np nc : Nat) (y x : Int64) : Prop :=
  ∃ t k s l, k < 4294967296 ∧ l < 4294967296 ∧ y = zv_c t k ∧ x = zv_c s l ∧ zv_K M np nc t k s l
def zv_tk (t : Nat) : Prop := t ≤ 4 ∨ (10 ≤ t ∧ t ≤ 45) ∨ (50 ≤ t ∧ t ≤ 64)
def zv_yA (t : Nat) : Int64 := if t < 10 then zv_c 1 (if t = 3 then 1 else 0) else if t < 30 then zv_c 0 (t - 10) else zv_c 4 t
def zv_xA (t : Nat) : Int64 := if t < 10 then zv_c 4 (if t = 3 then 1 else 0) else if t < 30 then zv_c 0 (t - 10) else zv_c 1 t
def cd_yl (T : Nat → Nat) (n p : Nat) : Int64 := pz_lst T n (pz_AY T n) (zv_c 3) (zv_c 2 0) p
def cd_yv (T : Nat → Nat) (n j : Nat) : Int64 := pz_val T n (pz_AY T n) (zv_c 3) (zv_c 2 0) zv_yA j
def cd_xl (T : Nat → Nat) (n p : Nat) : Int64 := pz_lst T n (pz_AX T n) (zv_c 2) (zv_c 3 0) p
def cd_xv (T : Nat → Nat) (n j : Nat) : Int64 := pz_val T n (pz_AX T n) (zv_c 2) (zv_c 3 0) zv_xA j
/-- one side's pairs of the text -/
def cd_De (T : Nat → Nat) (n : Nat) (A : Nat → Nat → Nat) (pr : Nat → Int64) (E : Int64) (am : Nat → Int64) (F R : Nat → Int64) : Prop :=
  (∀ p, p < n → T p ≠ 1 → ¬ pz_mk T p → F (A 0 p) = pz_val T n A pr E am p ∧ R (A 0 p) = pz_lst T n A pr E (pz_nx T n p)) ∧
  (∀ j, j < n → T j = 2 → F (A 1 j) = am 40 ∧ R (A 1 j) = pr (A 2 j) ∧ F (A 2 j) = pz_val T n A pr E am (j + 1) ∧ R (A 2 j) = E)
/-- the pairs that are code, on both sides, as they were read -/
def cd_OK (T : Nat → Nat) (n : Nat) (FY RY FX RX : Nat → Int64) : Prop :=
  (∀ p, p < n → T p ≠ 1 → ¬ pz_mk T p → ¬ pz_D0 T p → FY (pz_AY T n 0 p) = cd_yv T n p ∧ RY (pz_AY T n 0 p) = cd_yl T n (pz_nx T n p) ∧ FX (pz_AX T n 0 p) = cd_xv T n p ∧ RX (pz_AX T n 0 p) = cd_xl T n (pz_nx T n p)) ∧
  (∀ j, j < n → T j = 2 → pz_CF T j → (FY (pz_AY T n 1 j) = zv_c 4 40 ∧ RY (pz_AY T n 1 j) = zv_c 3 (pz_AY T n 2 j) ∧ FY (pz_AY T n 2 j) = cd_yv T n (j + 1) ∧ RY (pz_AY T n 2 j) = zv_c 2 0) ∧
    FX (pz_AX T n 1 j) = zv_c 1 40 ∧ RX (pz_AX T n 1 j) = zv_c 2 (pz_AX T n 2 j) ∧ FX (pz_AX T n 2 j) = cd_xv T n (j + 1) ∧ RX (pz_AX T n 2 j) = zv_c 3 0)
/-- the pairs that are data, and that the code's are others -/
def hp_OK (T : Nat → Nat) (n : Nat) (M : Nat → Nat → Prop) (np nc py px : Nat) (FY RY FX RX : Nat → Int64) : Prop :=
  (∀ p q, M p q → p < py ∧ q < px) ∧ (∀ p q q', M p q → M p q' → q = q') ∧ (∀ p p' q, M p q → M p' q → p = p') ∧
  (∀ p q, M p q → zv_V M np nc (FY p) (FX q) ∧ zv_V M np nc (RY p) (RX q)) ∧
  (∀ r j, pz_Nd T n r j → ¬ pz_Dn T n r j → (∀ q, ¬ M (pz_AY T n r j) q) ∧ (∀ p, ¬ M p (pz_AX T n r j))) ∧
  (∀ r j, pz_Nd T n r j → pz_AY T n r j < py ∧ pz_AX T n r j < px)

section
variable {M M' : Nat → Nat → Prop} {np nc np' nc' : Nat} {y x y' x' : Int64}
theorem zv_V_mono (hM : ∀ p q, M p q → M' p q) (h1 : np ≤ np') (h2 : nc ≤ nc') (h : zv_V M np nc y x) : zv_V M' np' nc' y x := by
  obtain ⟨t, k, s, l, a, b, c, d, h⟩ := h
  refine ⟨t, k, s, l, a, b, c, d, ?_⟩
  rcases h with h | h | h | h | h | h | h | h | h
  · exact Or.inl h
  · exact Or.inr (Or.inl h)
  · exact Or.inr (Or.inr (Or.inl h))
  · exact Or.inr (Or.inr (Or.inr (Or.inl ⟨h.1, h.2.1, hM _ _ h.2.2⟩)))
  · exact Or.inr (Or.inr (Or.inr (Or.inr (Or.inl h))))
  · exact Or.inr (Or.inr (Or.inr (Or.inr (Or.inr (Or.inl ⟨h.1, h.2.1, h.2.2.1, by omega⟩)))))
  · exact Or.inr (Or.inr (Or.inr (Or.inr (Or.inr (Or.inr (Or.inl h))))))
  · exact Or.inr (Or.inr (Or.inr (Or.inr (Or.inr (Or.inr (Or.inr (Or.inl ⟨h.1, h.2.1, h.2.2.1, by omega⟩)))))))
  · exact Or.inr (Or.inr (Or.inr (Or.inr (Or.inr (Or.inr (Or.inr (Or.inr h)))))))
theorem zv_K_b {t k s l : Nat} (h : zv_K M np nc t k s l) : t < 9 ∧ s < 9 := by
  rcases h with h | h | h | h | h | h | h | h | h <;> omega
theorem zv_K_p {t k s l : Nat} (h : zv_K M np nc t k s l) : (t = 3 ↔ s = 2) ∧ (t = 3 → M k l) ∧ (t = 2 ↔ s = 3) ∧ (t = 0 ↔ s = 0) ∧ (t = 2 → k = 0 ∧ l = 0) ∧ (t = 1 ↔ s = 4) ∧ (t = 4 ↔ s = 1) ∧ (t ≠ 3 → l = k) := by
  rcases h with h | h | h | h | h | h | h | h | h
  · exact ⟨by omega, fun z => by omega, by omega, by omega, fun z => by omega, by omega, by omega, fun z => by omega⟩
  · exact ⟨by omega, fun z => by omega, by omega, by omega, fun z => by omega, by omega, by omega, fun z => by omega⟩
  · exact ⟨by omega, fun z => by omega, by omega, by omega, fun z => by omega, by omega, by omega, fun z => by omega⟩
  · exact ⟨by omega, fun z => h.2.2, by omega, by omega, fun z => by omega, by omega, by omega, fun z => by omega⟩
  · exact ⟨by omega, fun z => by omega, by omega, by omega, fun z => by omega, by omega, by omega, fun z => by omega⟩
  · exact ⟨by omega, fun z => by omega, by omega, by omega, fun z => by omega, by omega, by omega, fun z => by omega⟩
  · exact ⟨by omega, fun z => by omega, by omega, by omega, fun z => by omega, by omega, by omega, fun z => by omega⟩
  · exact ⟨by omega, fun z => by omega, by omega, by omega, fun z => by omega, by omega, by omega, fun z => by omega⟩
  · exact ⟨by omega, fun z => by omega, by omega, by omega, fun z => by omega, by omega, by omega, fun z => by omega⟩
theorem zv_K_ts {t k s l t' k' s' l' : Nat} (h : zv_K M np nc t k s l) (h' : zv_K M np nc t' k' s' l') : t = t' ↔ s = s' := by
  rcases h with h | h | h | h | h | h | h | h | h <;> rcases h' with h' | h' | h' | h' | h' | h' | h' | h' | h' <;> omega
theorem zv_V_eq (h1 : ∀ p q q', M p q → M p q' → q = q') (h2 : ∀ p p' q, M p q → M p' q → p = p') (h : zv_V M np nc y x) (h' : zv_V M np nc y' x') : y = y' ↔ x = x' := by
  obtain ⟨t, k, s, l, a, b, rfl, rfl, h⟩ := h
  obtain ⟨t', k', s', l', a', b', rfl, rfl, h'⟩ := h'
  have c := zv_K_b h
  have c' := zv_K_b h'
  have d := zv_K_p h
  have d' := zv_K_p h'
  have e := zv_K_ts h h'
  rw [zv_eq (by omega) a (by omega) a', zv_eq (by omega) b (by omega) b']
  by_cases z : t = 3
  · by_cases z' : t' = 3
    · have m := d.2.1 z
      have m' := d'.2.1 z'
      constructor
      · intro ⟨e1, e2⟩
        subst e2
        exact ⟨e.mp e1, h1 _ _ _ m m'⟩
      · intro ⟨e1, e2⟩
        subst e2
        exact ⟨e.mpr e1, h2 _ _ _ m m'⟩
    · omega
  · by_cases z' : t' = 3
    · omega
    · have := d.2.2.2.2.2.2.2 z
      have := d'.2.2.2.2.2.2.2 z'
      omega
theorem zv_VA {t : Nat} (h : zv_tk t) (h3 : 3 ≤ t) : zv_V M np nc (zv_yA t) (zv_xA t) := by
  unfold zv_yA zv_xA
  unfold zv_tk at h
  by_cases c : t < 10
  · rw [if_pos c, if_pos c]
    refine ⟨1, _, 4, _, ?_, ?_, rfl, rfl, Or.inr (Or.inl ⟨rfl, rfl, rfl, ?_⟩)⟩ <;> split <;> omega
  · rw [if_neg c, if_neg c]
    by_cases d : t < 30
    · rw [if_pos d, if_pos d]
      exact ⟨0, _, 0, _, by omega, by omega, rfl, rfl, Or.inl ⟨rfl, rfl, rfl⟩⟩
    · rw [if_neg d, if_neg d]
      exact ⟨4, _, 1, _, by omega, by omega, rfl, rfl, Or.inr (Or.inr (Or.inr (Or.inr (Or.inl ⟨rfl, rfl, rfl, by omega⟩))))⟩
end
section
variable {T : Nat → Nat} {n np nc : Nat}
/-- what stands for one pair, of the text's data -/
def cd_M (T : Nat → Nat) (n : Nat) (p q : Nat) : Prop := ∃ r j, pz_Dn T n r j ∧ p = pz_AY T n r j ∧ q = pz_AX T n r j
theorem cd_Vl (hR : pz_Rd T n) (hn : n ≤ 70) {p : Nat} (hD : pz_D0 T p) (hm : ¬ pz_mk T p) : zv_V (cd_M T n) np nc (cd_yl T n p) (cd_xl T n p) := by
  unfold cd_yl cd_xl pz_lst
  by_cases c : p < n ∧ T p ≠ 1
  · rw [if_pos c, if_pos c]
    have hN : pz_Nd T n 0 p := ⟨c.1, Or.inl ⟨rfl, c.2, hm⟩⟩
    have h1 := pz_AY_lt hR hN
    have h2 := pz_AX_lt hR hN
    have h3 := pz_P_le (T := T) n hn
    have h4 := pz_W_le (T := T) (i := n)
    exact ⟨3, _, 2, _, by omega, by omega, rfl, rfl, Or.inr (Or.inr (Or.inr (Or.inl ⟨rfl, rfl, 0, p, ⟨hN, fun _ => hD, fun z => absurd rfl z⟩, rfl, rfl⟩)))⟩
  · rw [if_neg c, if_neg c]
    exact ⟨2, 0, 3, 0, by omega, by omega, rfl, rfl, Or.inr (Or.inr (Or.inl ⟨rfl, rfl, rfl, rfl⟩))⟩
theorem cd_Vv (hR : pz_Rd T n) (hn : n ≤ 70) (hT : ∀ i, i < n → zv_tk (T i)) {j : Nat} (hj : j < n) (h1 : T j ≠ 1) (hC : ¬ pz_CF T j) : zv_V (cd_M T n) np nc (cd_yv T n j) (cd_xv T n j) := by
  unfold cd_yv cd_xv pz_val
  by_cases c : T j = 0
  · rw [if_pos c, if_pos c]
    exact cd_Vl hR hn (pz_D0_o c hC) (fun z => by have := pz_mk_s.mp z; omega)
  · rw [if_neg c, if_neg c]
    by_cases d : T j = 2
    · rw [if_pos d, if_pos d]
      have hN : pz_Nd T n 1 j := ⟨hj, Or.inr ⟨Or.inl rfl, d⟩⟩
      have h1 := pz_AY_lt hR hN
      have h2 := pz_AX_lt hR hN
      have h3 := pz_P_le (T := T) n hn
      have h4 := pz_W_le (T := T) (i := n)
      exact ⟨3, _, 2, _, by omega, by omega, rfl, rfl, Or.inr (Or.inr (Or.inr (Or.inl ⟨rfl, rfl, 1, j, ⟨hN, fun z => by omega, fun _ => hC⟩, rfl, rfl⟩)))⟩
    · rw [if_neg d, if_neg d]
      exact zv_VA (hT j hj) (by omega)
/-- reading both sides: code and data -/
theorem cd_start (hR : pz_Rd T n) (hn : n ≤ 70) (hT : ∀ i, i < n → zv_tk (T i)) {FY RY FX RX : Nat → Int64} {py px : Nat} (hpy : pz_P T n ≤ py) (hpx : pz_W T n ≤ px)
    (hY : cd_De T n (pz_AY T n) (zv_c 3) (zv_c 2 0) zv_yA FY RY) (hX : cd_De T n (pz_AX T n) (zv_c 2) (zv_c 3 0) zv_xA FX RX) :
    cd_OK T n FY RY FX RX ∧ hp_OK T n (cd_M T n) np nc py px FY RY FX RX := by
  have y40 : zv_yA 40 = zv_c 4 40 := rfl
  have x40 : zv_xA 40 = zv_c 1 40 := rfl
  refine ⟨⟨fun p h1 h2 h3 _ => ?_, fun j h1 h2 _ => ?_⟩, fun p q h => ?_, fun p q q' h h' => ?_, fun p p' q h h' => ?_, fun p q h => ?_, fun r j h h' => ⟨fun q z => ?_, fun p z => ?_⟩, fun r j h => ?_⟩
  · exact ⟨(hY.1 p h1 h2 h3).1, (hY.1 p h1 h2 h3).2, (hX.1 p h1 h2 h3).1, (hX.1 p h1 h2 h3).2⟩
  · have a := hY.2 j h1 h2
    have b := hX.2 j h1 h2
    rw [y40] at a
    rw [x40] at b
    exact ⟨a, b⟩
  · obtain ⟨r, j, hD, rfl, rfl⟩ := h
    have := pz_AY_lt hR hD.1
    have := pz_AX_lt hR hD.1
    omega
  · obtain ⟨r, j, hD, rfl, rfl⟩ := h
    obtain ⟨r', j', hD', e, rfl⟩ := h'
    obtain ⟨rfl, rfl⟩ := pz_AY_inj hR hD.1 hD'.1 e
    rfl
  · obtain ⟨r, j, hD, rfl, rfl⟩ := h
    obtain ⟨r', j', hD', rfl, e⟩ := h'
    obtain ⟨rfl, rfl⟩ := pz_AX_inj hR hD.1 hD'.1 e
    rfl
  · obtain ⟨r, j, ⟨⟨hj, hN⟩, hD0, hD1⟩, rfl, rfl⟩ := h
    rcases hN with ⟨rfl, n1, nm⟩ | ⟨hr, n2⟩
    · have d := hD0 rfl
      obtain ⟨a1, a2⟩ := hY.1 j hj n1 nm
      obtain ⟨b1, b2⟩ := hX.1 j hj n1 nm
      obtain ⟨e1, e2⟩ := pz_nx_ok hR hj n1
      rw [a1, a2, b1, b2]
      exact ⟨cd_Vv hR hn hT hj n1 (fun z => d.1 z.2), cd_Vl hR hn (pz_D0_e e2 d) (pz_Fm_nmk e2)⟩
    · have d := hD1 (by omega)
      obtain ⟨a1, a2, a3, a4⟩ := hY.2 j hj n2
      obtain ⟨b1, b2, b3, b4⟩ := hX.2 j hj n2
      have hj1 : j + 1 < n := by
        by_cases z : j + 1 = n
        · exact absurd (z ▸ pz_mk_s.mpr n2) hR.2.2
        · omega
      have hj2 : T (j + 1) ≠ 1 := fun z => (hR.1 (j + 1) hj1 z).2 (pz_mk_s.mpr n2)
      have h3 := pz_P_le (T := T) n hn
      have h4 := pz_W_le (T := T) (i := n)
      rcases hr with rfl | rfl
      · rw [a1, a2, b1, b2]
        have hN2 : pz_Nd T n 2 j := ⟨hj, Or.inr ⟨Or.inr rfl, n2⟩⟩
        have g1 := pz_AY_lt hR hN2
        have g2 := pz_AX_lt hR hN2
        exact ⟨zv_VA (by unfold zv_tk; omega) (by omega), 3, _, 2, _, by omega, by omega, rfl, rfl, Or.inr (Or.inr (Or.inr (Or.inl ⟨rfl, rfl, 2, j, ⟨hN2, fun z => by omega, fun _ => d⟩, rfl, rfl⟩)))⟩
      · rw [a3, a4, b3, b4]
        exact ⟨cd_Vv hR hn hT hj1 hj2 (fun z => z.1 (pz_mk_s.mpr n2)), 2, 0, 3, 0, by omega, by omega, rfl, rfl, Or.inr (Or.inr (Or.inl ⟨rfl, rfl, rfl, rfl⟩))⟩
  · obtain ⟨r', j', hD', e, _⟩ := z
    obtain ⟨rfl, rfl⟩ := pz_AY_inj hR h hD'.1 e
    exact h' hD'
  · obtain ⟨r', j', hD', _, e⟩ := z
    obtain ⟨rfl, rfl⟩ := pz_AX_inj hR h hD'.1 e
    exact h' hD'
  · have := pz_AY_lt hR h
    have := pz_AX_lt hR h
    omega
end
