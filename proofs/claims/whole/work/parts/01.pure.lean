/-! the text by positions: depth, ends of forms, weights, addresses, which places are code -/
def pz_dd (T : Nat → Nat) : Nat → Nat
  | 0 => 0
  | i + 1 => if T i = 0 then pz_dd T i + 1 else if T i = 1 then pz_dd T i - 1 else pz_dd T i
def pz_mk (T : Nat → Nat) (i : Nat) : Prop := 0 < i ∧ T (i - 1) = 2
def pz_ok (T : Nat → Nat) (i : Nat) : Prop := T i = 1 → 1 ≤ pz_dd T i ∧ ¬ pz_mk T i
def pz_Rd (T : Nat → Nat) (n : Nat) : Prop := (∀ i, i < n → pz_ok T i) ∧ pz_dd T n = 0 ∧ ¬ pz_mk T n
def pz_ww (T : Nat → Nat) : Nat → Nat
  | 0 => 0
  | i + 1 => if pz_dd T (i + 1) = 0 ∧ T i ≠ 2 then pz_ww T i + 1 else pz_ww T i
def pz_w (t : Nat) : Nat := if t = 1 then 0 else if t = 2 then 2 else 1
def pz_W (T : Nat → Nat) : Nat → Nat
  | 0 => 0
  | i + 1 => pz_W T i + pz_w (T i)
def pz_qn (T : Nat → Nat) : Nat → Nat
  | 0 => 0
  | b + 1 => if T b = 2 then pz_qn T b + 1 else 0
def pz_mo (T : Nat → Nat) (k : Nat) : Nat → Nat
  | 0 => 0
  | t + 1 => if pz_dd T t ≤ k then t else pz_mo T k t
def pz_cb (T : Nat → Nat) (t : Nat) : Nat := if T t = 1 then pz_mo T (pz_dd T (t + 1)) t else t
def pz_P (T : Nat → Nat) : Nat → Nat
  | 0 => 0
  | t + 1 => pz_P T t + (if T t = 0 ∨ T t = 2 then 0 else 1 + 2 * pz_qn T (pz_cb T t))
def pz_bsf (T : Nat → Nat) : Nat → Nat → Nat
  | 0, j => j
  | f + 1, j => if T j = 2 then pz_bsf T f (j + 1) else j
def pz_bs (T : Nat → Nat) (n j : Nat) : Nat := pz_bsf T (n - j) j
def pz_sc (T : Nat → Nat) (k : Nat) : Nat → Nat → Nat
  | 0, i => i
  | f + 1, i => if pz_dd T (i + 1) ≤ k then i else pz_sc T k f (i + 1)
def pz_nx (T : Nat → Nat) (n j : Nat) : Nat :=
  if T (pz_bs T n j) = 0 then pz_sc T (pz_dd T (pz_bs T n j)) (n - (pz_bs T n j + 1)) (pz_bs T n j + 1) + 1 else pz_bs T n j + 1
/-- a form stands at p and ends before e -/
def pz_Fm (T : Nat → Nat) (p e : Nat) : Prop := ∃ b, p ≤ b ∧ (∀ j, p ≤ j → j < b → T j = 2) ∧
  ((3 ≤ T b ∧ e = b + 1) ∨ (T b = 0 ∧ b + 1 < e ∧ T (e - 1) = 1 ∧ pz_dd T e = pz_dd T b ∧ ∀ j, b < j → j < e → pz_dd T b < pz_dd T j))
def pz_in (T : Nat → Nat) (o t : Nat) : Prop := T o = 0 ∧ o < t ∧ ∀ j, o < j → j ≤ t → pz_dd T o < pz_dd T j
def pz_dO (T : Nat → Nat) (o : Nat) : Prop := pz_mk T o ∨ T (o + 1) = 40
def pz_CL (T : Nat → Nat) (p : Nat) : Prop := ∀ o, pz_in T o p → ¬ pz_dO T o
def pz_CF (T : Nat → Nat) (j : Nat) : Prop := ¬ pz_mk T j ∧ pz_CL T j
def pz_QC (T : Nat → Nat) (p : Nat) : Prop := ∃ o, pz_in T o p ∧ pz_dd T o + 1 = pz_dd T p ∧ T (o + 1) = 40 ∧ pz_CF T o
def pz_D0 (T : Nat → Nat) (p : Nat) : Prop := ¬ pz_CL T p ∧ ¬ pz_QC T p

section
variable {T : Nat → Nat} {i j n p e b : Nat}
theorem pz_dd_o (h : T i = 0) : pz_dd T (i + 1) = pz_dd T i + 1 := by simp [pz_dd, h]
theorem pz_dd_c (h : T i = 1) : pz_dd T (i + 1) = pz_dd T i - 1 := by simp [pz_dd, h]
theorem pz_dd_a (h0 : T i ≠ 0) (h1 : T i ≠ 1) : pz_dd T (i + 1) = pz_dd T i := by simp [pz_dd, h0, h1]
theorem pz_dd_le : pz_dd T (i + 1) ≤ pz_dd T i + 1 := by
  by_cases h0 : T i = 0
  · rw [pz_dd_o h0]; omega
  · by_cases h1 : T i = 1
    · rw [pz_dd_c h1]; omega
    · rw [pz_dd_a h0 h1]; omega
theorem pz_mk_s : pz_mk T (i + 1) ↔ T i = 2 := by
  unfold pz_mk
  rw [Nat.add_sub_cancel]
  exact ⟨fun h => h.2, fun h => ⟨by omega, h⟩⟩
theorem pz_mk_0 : ¬ pz_mk T 0 := fun h => absurd h.1 (by omega)
theorem pz_dq (hq : ∀ j, p ≤ j → j < b → T j = 2) : ∀ j, p ≤ j → j ≤ b → pz_dd T j = pz_dd T p := by
  intro j
  induction j with
  | zero => intro h1 _; have h : p = 0 := by omega
            rw [h]
  | succ j ih =>
    intro h1 h2
    by_cases h : p = j + 1
    · rw [h]
    · have e := hq j (by omega) (by omega)
      rw [pz_dd_a (by omega) (by omega)]
      exact ih (by omega) (by omega)
theorem pz_Fm_lt (h : pz_Fm T p e) : p < e := by
  obtain ⟨b, h1, _, h | h⟩ := h <;> omega
theorem pz_Fm_dd (h : pz_Fm T p e) : pz_dd T e = pz_dd T p := by
  obtain ⟨b, h1, hq, h⟩ := h
  have hb := pz_dq hq b h1 (Nat.le_refl _)
  rcases h with ⟨ha, rfl⟩ | ⟨h0, h2, h3, h4, h5⟩
  · rw [pz_dd_a (by omega) (by omega), hb]
  · rw [h4, hb]
theorem pz_Fm_ge (h : pz_Fm T p e) : ∀ j, p ≤ j → j ≤ e → pz_dd T p ≤ pz_dd T j := by
  have he := pz_Fm_dd h
  obtain ⟨b, h1, hq, h⟩ := h
  have hb := pz_dq hq
  intro j hj hje
  by_cases hjb : j ≤ b
  · exact Nat.le_of_eq (hb j hj hjb).symm
  · by_cases hje' : j = e
    · rw [hje']; omega
    · have hbb := hb b h1 (Nat.le_refl _)
      rcases h with ⟨ha, h9⟩ | ⟨h0, h2, h3, h4, h5⟩
      · omega
      · have := h5 j (by omega) (by omega); omega
theorem pz_Fm_last (h : pz_Fm T p e) : T (e - 1) ≠ 2 ∧ T (e - 1) ≠ 0 := by
  obtain ⟨b, h1, _, ⟨h, rfl⟩ | h⟩ := h
  · rw [Nat.add_sub_cancel]; omega
  · omega
theorem pz_Fm_nmk (h : pz_Fm T p e) : ¬ pz_mk T e := fun z => (pz_Fm_last h).1 z.2
theorem pz_Fm_n1 (h : pz_Fm T p e) : T p ≠ 1 := by
  obtain ⟨b, h1, hq, h⟩ := h
  by_cases hb : p = b
  · subst hb; omega
  · have := hq p (Nat.le_refl _) (by omega); omega
theorem pz_Fm_q (h : pz_Fm T (p + 1) e) (h2 : T p = 2) : pz_Fm T p e := by
  obtain ⟨b, h1, hq, h⟩ := h
  refine ⟨b, by omega, fun j a c => ?_, h⟩
  by_cases hj : j = p
  · rw [hj, h2]
  · exact hq j (by omega) c
theorem pz_Fm_q' (h : pz_Fm T p e) (h2 : T p = 2) : pz_Fm T (p + 1) e := by
  obtain ⟨b, h1, hq, h⟩ := h
  have hb : p ≠ b := by
    intro z; subst z; omega
  exact ⟨b, by omega, fun j a c => hq j (by omega) c, h⟩
theorem pz_bsf_eq (hb : T b ≠ 2) : ∀ f j, j ≤ b → b ≤ j + f → (∀ i, j ≤ i → i < b → T i = 2) → pz_bsf T f j = b := by
  intro f
  induction f with
  | zero => intro j h1 h2 _; rw [pz_bsf]; omega
  | succ f ih =>
    intro j h1 h2 h3
    by_cases hj : j = b
    · rw [pz_bsf, hj, if_neg hb]
    · rw [pz_bsf, if_pos (h3 j (Nat.le_refl _) (by omega))]
      exact ih (j + 1) (by omega) (by omega) (fun i a c => h3 i (by omega) c)
theorem pz_bs_eq (hb : T b ≠ 2) (h1 : j ≤ b) (h2 : b < n) (h3 : ∀ i, j ≤ i → i < b → T i = 2) : pz_bs T n j = b :=
  pz_bsf_eq hb _ _ h1 (by omega) h3
theorem pz_bs_s (h : j < n) (h2 : T j = 2) : pz_bs T n j = pz_bs T n (j + 1) := by
  unfold pz_bs
  rw [show n - j = (n - (j + 1)) + 1 by omega, pz_bsf, if_pos h2]
theorem pz_bs_n (h2 : T j ≠ 2) : pz_bs T n j = j := by
  unfold pz_bs
  cases n - j with
  | zero => rfl
  | succ f => rw [pz_bsf, if_neg h2]
theorem pz_sc_eq {k : Nat} : ∀ f i, i < e → e ≤ i + f → pz_dd T e ≤ k → (∀ j, i < j → j < e → k < pz_dd T j) → pz_sc T k f i + 1 = e := by
  intro f
  induction f with
  | zero => intro i h1 h2; omega
  | succ f ih =>
    intro i h1 h2 h3 h4
    by_cases hi : i + 1 = e
    · rw [pz_sc, if_pos (by rw [hi]; exact h3), hi]
    · have := h4 (i + 1) (by omega) (by omega)
      rw [pz_sc, if_neg (by omega)]
      exact ih (i + 1) (by omega) (by omega) h3 (fun j a c => h4 j (by omega) c)
theorem pz_nx_eq (h : pz_Fm T p e) (he : e ≤ n) : pz_nx T n p = e ∧ ∃ b, pz_bs T n p = b ∧ p ≤ b ∧ b < e ∧ (∀ j, p ≤ j → j < b → T j = 2) ∧
    ((3 ≤ T b ∧ e = b + 1) ∨ (T b = 0 ∧ b + 1 < e ∧ T (e - 1) = 1 ∧ pz_dd T e = pz_dd T b ∧ ∀ j, b < j → j < e → pz_dd T b < pz_dd T j)) := by
  obtain ⟨b, h1, hq, h⟩ := h
  have hb2 : T b ≠ 2 := by omega
  have hb : pz_bs T n p = b := pz_bs_eq hb2 h1 (by omega) hq
  refine ⟨?_, b, hb, h1, by omega, hq, h⟩
  unfold pz_nx
  rw [hb]
  rcases h with ⟨ha, h9⟩ | ⟨h0, h2, h3, h4, h5⟩
  · rw [if_neg (by omega), h9]
  · rw [if_pos h0]
    exact pz_sc_eq _ _ h2 (by omega) (by omega) (fun j a c => h5 j (by omega) c)
theorem pz_Fm_ex (hR : pz_Rd T n) (hp : p < n) (h1 : T p ≠ 1) : ∃ e, e ≤ n ∧ pz_Fm T p e := by
  obtain ⟨hok, h0, hm⟩ := hR
  -- the base
  have hb : ∀ d p, n - p = d → p < n → T p ≠ 1 → ∃ b, b < n ∧ p ≤ b ∧ (∀ j, p ≤ j → j < b → T j = 2) ∧ T b ≠ 1 ∧ T b ≠ 2 := by
    intro d
    induction d with
    | zero => intro p h1 h2; omega
    | succ d ih =>
      intro p h1 h2 h3
      by_cases h4 : T p = 2
      · have h5 : p + 1 ≠ n := by
          intro z
          exact hm (z ▸ pz_mk_s.mpr h4)
        have h6 : T (p + 1) ≠ 1 := fun z => (hok (p + 1) (by omega) z).2 (pz_mk_s.mpr h4)
        obtain ⟨b, a1, a2, a3, a4⟩ := ih (p + 1) (by omega) (by omega) h6
        refine ⟨b, a1, by omega, fun j c1 c2 => ?_, a4⟩
        by_cases hj : j = p
        · rw [hj, h4]
        · exact a3 j (by omega) c2
      · exact ⟨p, h2, Nat.le_refl _, fun j c1 c2 => by omega, h3, h4⟩
  obtain ⟨b, a1, a2, a3, a4, a5⟩ := hb _ p rfl hp h1
  by_cases hb0 : T b = 0
  · have hs : ∀ d e, n - e = d → e ≤ n → b < e → (∀ j, b < j → j < e → pz_dd T b < pz_dd T j) → ∃ e', e' ≤ n ∧ b < e' ∧ pz_dd T e' ≤ pz_dd T b ∧ (∀ j, b < j → j < e' → pz_dd T b < pz_dd T j) := by
      intro d
      induction d with
      | zero => intro e c1 c2 c3 c4
                have : e = n := by omega
                exact ⟨e, c2, c3, by rw [this, h0]; omega, c4⟩
      | succ d ih =>
        intro e c1 c2 c3 c4
        by_cases c5 : pz_dd T e ≤ pz_dd T b
        · exact ⟨e, c2, c3, c5, c4⟩
        · refine ih (e + 1) (by omega) (by omega) (by omega) (fun j k1 k2 => ?_)
          by_cases hj : j = e
          · rw [hj]; omega
          · exact c4 j k1 (by omega)
    obtain ⟨e, e1, e2, e3, e4⟩ := hs _ (b + 1) rfl (by omega) (by omega) (fun j k1 k2 => by omega)
    have e5 : e ≠ b + 1 := by
      intro z
      rw [z, pz_dd_o hb0] at e3; omega
    have e6 := e4 (e - 1) (by omega) (by omega)
    obtain ⟨m, hm9⟩ : ∃ m, e = m + 1 := ⟨e - 1, by omega⟩
    subst hm9
    rw [Nat.add_sub_cancel] at e6
    have e7 : T m = 1 := by
      by_cases c0 : T m = 0
      · rw [pz_dd_o c0] at e3; omega
      · by_cases c1 : T m = 1
        · exact c1
        · rw [pz_dd_a c0 c1] at e3; omega
    have e8 := pz_dd_c e7
    exact ⟨m + 1, e1, b, a2, a3, Or.inr ⟨hb0, by omega, by rw [Nat.add_sub_cancel]; exact e7, by omega, e4⟩⟩
  · exact ⟨b + 1, by omega, b, a2, a3, Or.inl ⟨by omega, rfl⟩⟩
theorem pz_nx_ok (hR : pz_Rd T n) (hp : p < n) (h1 : T p ≠ 1) : pz_nx T n p ≤ n ∧ pz_Fm T p (pz_nx T n p) := by
  obtain ⟨e, h2, h3⟩ := pz_Fm_ex hR hp h1
  rw [(pz_nx_eq h3 h2).1]
  exact ⟨h2, h3⟩
theorem pz_nx_q (hp : p < n) (h2 : T p = 2) : pz_nx T n p = pz_nx T n (p + 1) := by
  unfold pz_nx
  rw [pz_bs_s hp h2]
-- weights
theorem pz_W_mono : i ≤ j → pz_W T i ≤ pz_W T j := by
  intro h
  induction j with
  | zero => have : i = 0 := by omega
            rw [this]; exact Nat.le_refl _
  | succ j ih =>
    by_cases hi : i = j + 1
    · rw [hi]; exact Nat.le_refl _
    · have := ih (by omega)
      rw [pz_W]; omega
theorem pz_w_le (t : Nat) : pz_w t ≤ 2 := by
  unfold pz_w
  split <;> (try split) <;> omega
theorem pz_W_le : pz_W T i ≤ 2 * i := by
  induction i with
  | zero => exact Nat.le_refl _
  | succ i ih => have := pz_w_le (T i); rw [pz_W]; omega
theorem pz_P_mono : i ≤ j → pz_P T i ≤ pz_P T j := by
  intro h
  induction j with
  | zero => have : i = 0 := by omega
            rw [this]; exact Nat.le_refl _
  | succ j ih =>
    by_cases hi : i = j + 1
    · rw [hi]; exact Nat.le_refl _
    · have := ih (by omega)
      rw [pz_P]; omega
theorem pz_qn_ge (hq : ∀ j, p ≤ j → j < b → T j = 2) : p ≤ b → b - p ≤ pz_qn T b := by
  intro h
  induction b with
  | zero => omega
  | succ b ih =>
    by_cases hb : p = b + 1
    · omega
    · rw [pz_qn, if_pos (hq b (by omega) (by omega))]
      have := ih (fun j a c => hq j a (by omega)) (by omega)
      omega
theorem pz_qn_eq (hq : ∀ j, p ≤ j → j < b → T j = 2) (hm : ¬ pz_mk T p) : p ≤ b → pz_qn T b = b - p := by
  intro h
  induction b with
  | zero => rw [pz_qn]; omega
  | succ b ih =>
    by_cases hb : p = b + 1
    · subst hb
      rw [pz_qn, if_neg (fun z => hm (pz_mk_s.mpr z))]; omega
    · rw [pz_qn, if_pos (hq b (by omega) (by omega)), ih (fun j a c => hq j a (by omega)) (by omega)]
      omega
theorem pz_mo_eq {k o : Nat} : ∀ t, o < t → pz_dd T o ≤ k → (∀ j, o < j → j < t → k < pz_dd T j) → pz_mo T k t = o := by
  intro t
  induction t with
  | zero => intro h; omega
  | succ t ih =>
    intro h1 h2 h3
    by_cases ht : o = t
    · rw [pz_mo, if_pos (by rw [← ht]; exact h2), ht]
    · have := h3 t (by omega) (by omega)
      rw [pz_mo, if_neg (by omega)]
      exact ih (by omega) h2 (fun j a c => h3 j a (by omega))
/-- the base of the form that ends with the token t -/
theorem pz_cb_eq (hb : (3 ≤ T b ∧ e = b + 1) ∨ (T b = 0 ∧ b + 1 < e ∧ T (e - 1) = 1 ∧ pz_dd T e = pz_dd T b ∧ ∀ j, b < j → j < e → pz_dd T b < pz_dd T j)) : pz_cb T (e - 1) = b := by
  unfold pz_cb
  rcases hb with ⟨ha, rfl⟩ | ⟨h0, h2, h3, h4, h5⟩
  · rw [Nat.add_sub_cancel, if_neg (by omega)]
  · rw [if_pos h3, show e - 1 + 1 = e by omega]
    exact pz_mo_eq _ (by omega) (by omega) (fun j a c => by rw [h4]; exact h5 j a (by omega))
theorem pz_P_s (hb : (3 ≤ T b ∧ e = b + 1) ∨ (T b = 0 ∧ b + 1 < e ∧ T (e - 1) = 1 ∧ pz_dd T e = pz_dd T b ∧ ∀ j, b < j → j < e → pz_dd T b < pz_dd T j)) : pz_P T e = pz_P T (e - 1) + (1 + 2 * pz_qn T b) := by
  have hc := pz_cb_eq hb
  obtain ⟨m, rfl⟩ : ∃ m, e = m + 1 := ⟨e - 1, by omega⟩
  rw [Nat.add_sub_cancel] at hc ⊢
  have h : ¬ (T m = 0 ∨ T m = 2) := by
    rcases hb with ⟨ha, h⟩ | ⟨h0, h2, h3, h4, h5⟩
    · have : m = b := by omega
      subst this; omega
    · rw [Nat.add_sub_cancel] at h3; omega
  rw [pz_P, if_neg h, hc]
-- which places are code
theorem pz_in_s {o : Nat} (h0 : T p = 0) : pz_in T o (p + 1) ↔ o = p ∨ pz_in T o p := by
  have hd := pz_dd_o h0
  constructor
  · intro ⟨a, c, d⟩
    by_cases h : o = p
    · exact Or.inl h
    · exact Or.inr ⟨a, by omega, fun j k1 k2 => d j k1 (by omega)⟩
  · intro h
    rcases h with rfl | ⟨a, c, d⟩
    · refine ⟨h0, by omega, fun j k1 k2 => ?_⟩
      have : j = o + 1 := by omega
      rw [this]; omega
    · refine ⟨a, by omega, fun j k1 k2 => ?_⟩
      by_cases hj : j = p + 1
      · have := d p c (Nat.le_refl _)
        rw [hj]; omega
      · exact d j k1 (by omega)
theorem pz_in_e {o : Nat} (h : pz_Fm T p e) : pz_in T o e ↔ pz_in T o p := by
  have h1 := pz_Fm_lt h
  have h2 := pz_Fm_dd h
  have h3 := pz_Fm_ge h
  constructor
  · intro ⟨a, c, d⟩
    have he := d e c (Nat.le_refl _)
    have hp : o < p := by
      by_cases z : o < p
      · exact z
      · have := h3 o (by omega) (by omega)
        omega
    exact ⟨a, hp, fun j k1 k2 => d j k1 (by omega)⟩
  · intro ⟨a, c, d⟩
    refine ⟨a, by omega, fun j k1 k2 => ?_⟩
    by_cases hj : j ≤ p
    · exact d j k1 hj
    · have := h3 j (by omega) k2
      have := d p c (Nat.le_refl _)
      omega
theorem pz_CL_e (h : pz_Fm T p e) : pz_CL T e ↔ pz_CL T p :=
  ⟨fun c o ho => c o ((pz_in_e h).mpr ho), fun c o ho => c o ((pz_in_e h).mp ho)⟩
theorem pz_QC_e (h : pz_Fm T p e) : pz_QC T e ↔ pz_QC T p := by
  have h2 := pz_Fm_dd h
  constructor
  · intro ⟨o, a, c, d⟩
    exact ⟨o, (pz_in_e h).mp a, by omega, d⟩
  · intro ⟨o, a, c, d⟩
    exact ⟨o, (pz_in_e h).mpr a, by omega, d⟩
theorem pz_D0_e (h : pz_Fm T p e) (hd : pz_D0 T p) : pz_D0 T e :=
  ⟨fun z => hd.1 ((pz_CL_e h).mp z), fun z => hd.2 ((pz_QC_e h).mp z)⟩
theorem pz_CL_o (h0 : T p = 0) (hc : pz_CF T p) (h40 : T (p + 1) ≠ 40) : pz_CL T (p + 1) := by
  intro o ho
  rcases (pz_in_s h0).mp ho with rfl | ho
  · exact fun z => z.elim hc.1 h40
  · exact hc.2 o ho
theorem pz_QC_o (h0 : T p = 0) (hc : pz_CF T p) (h40 : T (p + 1) = 40) : pz_QC T (p + 1) :=
  ⟨p, (pz_in_s h0).mpr (Or.inl rfl), (pz_dd_o h0).symm, h40, hc⟩
theorem pz_QC_nCL (h : pz_QC T p) : ¬ pz_CL T p := by
  obtain ⟨o, a, _, c, _⟩ := h
  exact fun z => z o a (Or.inr c)
theorem pz_D0_o (h0 : T p = 0) (hc : ¬ pz_CF T p) : pz_D0 T (p + 1) := by
  constructor
  · intro z
    refine hc ⟨fun m => z p ((pz_in_s h0).mpr (Or.inl rfl)) (Or.inl m), fun o ho => z o ((pz_in_s h0).mpr (Or.inr ho))⟩
  · intro ⟨o, a, c, d, f⟩
    have hd := pz_dd_o h0
    rcases (pz_in_s h0).mp a with rfl | ho
    · exact hc f
    · have := ho.2.2 p ho.2.1 (Nat.le_refl _)
      omega
theorem pz_CL_0 : pz_CL T 0 := fun o ho => absurd ho.2.1 (by omega)
end
