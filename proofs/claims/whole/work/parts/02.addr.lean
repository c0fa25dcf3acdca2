/-! addresses of the pairs that reading makes: X's by weights from the right, Y's by the ends of forms -/
def pz_AX (T : Nat → Nat) (n : Nat) : Nat → Nat → Nat
  | 0, j => pz_W T n - pz_W T (pz_bs T n j + 1)
  | 1, j => pz_W T n - pz_W T (j + 1) + 1
  | _, j => pz_W T n - pz_W T (j + 1)
def pz_AY (T : Nat → Nat) (n : Nat) : Nat → Nat → Nat
  | 0, j => pz_P T (pz_nx T n j) - 1
  | 1, j => pz_P T (pz_nx T n j - 1) + 2 * (pz_bs T n j - 1 - j) + 1
  | _, j => pz_P T (pz_nx T n j - 1) + 2 * (pz_bs T n j - 1 - j)
def pz_Nd (T : Nat → Nat) (n r j : Nat) : Prop := j < n ∧ ((r = 0 ∧ T j ≠ 1 ∧ ¬ pz_mk T j) ∨ ((r = 1 ∨ r = 2) ∧ T j = 2))
def pz_lst (T : Nat → Nat) (n : Nat) (A : Nat → Nat → Nat) (pr : Nat → Int64) (E : Int64) (p : Nat) : Int64 := if p < n ∧ T p ≠ 1 then pr (A 0 p) else E
def pz_val (T : Nat → Nat) (n : Nat) (A : Nat → Nat → Nat) (pr : Nat → Int64) (E : Int64) (am : Nat → Int64) (j : Nat) : Int64 :=
  if T j = 0 then pz_lst T n A pr E (j + 1) else if T j = 2 then pr (A 1 j) else am (T j)
/-- data nodes -/
def pz_Dn (T : Nat → Nat) (n r j : Nat) : Prop := pz_Nd T n r j ∧ (r = 0 → pz_D0 T j) ∧ (r ≠ 0 → ¬ pz_CF T j)

section
variable {T : Nat → Nat} {n r j r' j' b : Nat}
theorem pz_run_eq (h : ∀ i, j ≤ i → i < b → T i = 2) (h' : ∀ i, j' ≤ i → i < b → T i = 2) (hj : j ≤ b) (hj' : j' ≤ b) (hm : ¬ pz_mk T j) (hm' : ¬ pz_mk T j') : j = j' := by
  by_cases h1 : j < j'
  · exact absurd ⟨by omega, h (j' - 1) (by omega) (by omega)⟩ hm'
  · by_cases h2 : j' < j
    · exact absurd ⟨by omega, h' (j - 1) (by omega) (by omega)⟩ hm
    · omega
theorem pz_AX_r (hR : pz_Rd T n) (h : pz_Nd T n r j) : ∃ τ, τ < n ∧ j ≤ τ ∧ pz_AX T n r j + pz_W T (τ + 1) = pz_W T n + (if r = 1 then 1 else 0) ∧ pz_W T (τ + 1) = pz_W T τ + (if r = 0 then 1 else 2) ∧
    (∀ i, j ≤ i → i < τ → T i = 2) ∧ (r = 0 → T τ ≠ 2) ∧ (r ≠ 0 → τ = j ∧ T τ = 2) := by
  obtain ⟨hj, h⟩ := h
  rcases h with ⟨rfl, h1, h2⟩ | ⟨h1, h2⟩
  · obtain ⟨e, he, hF⟩ := pz_Fm_ex hR hj h1
    obtain ⟨_, b, hb, a1, a2, a3, a4⟩ := pz_nx_eq hF he
    have hm : pz_W T (b + 1) ≤ pz_W T n := pz_W_mono (by omega)
    have hw : pz_w (T b) = 1 := by
      unfold pz_w
      rw [if_neg (by omega), if_neg (by omega)]
    refine ⟨b, by omega, a1, ?_, ?_, a3, fun _ => by omega, fun z => absurd rfl z⟩
    · simp only [pz_AX, hb]
      rw [if_neg (by omega)]; omega
    · rw [pz_W, hw]; simp
  · have hm : pz_W T (j + 1) ≤ pz_W T n := pz_W_mono (by omega)
    have hw : pz_w (T j) = 2 := by
      unfold pz_w
      rw [if_neg (by omega), if_pos h2]
    refine ⟨j, hj, Nat.le_refl _, ?_, ?_, fun i a c => by omega, fun z => by omega, fun _ => ⟨rfl, h2⟩⟩
    · rcases h1 with rfl | rfl
      · show pz_W T n - pz_W T (j + 1) + 1 + pz_W T (j + 1) = pz_W T n + 1
        omega
      · show pz_W T n - pz_W T (j + 1) + pz_W T (j + 1) = pz_W T n + 0
        omega
    · rw [pz_W, hw, if_neg (by omega)]
theorem pz_AX_lt (hR : pz_Rd T n) (h : pz_Nd T n r j) : pz_AX T n r j < pz_W T n := by
  obtain ⟨τ, h1, _, h2, h3, _⟩ := pz_AX_r hR h
  by_cases z : r = 1
  · rw [if_pos z] at h2
    rw [if_neg (by omega)] at h3; omega
  · rw [if_neg z] at h2
    by_cases z0 : r = 0
    · rw [if_pos z0] at h3; omega
    · rw [if_neg z0] at h3; omega
theorem pz_AX_inj (hR : pz_Rd T n) (h : pz_Nd T n r j) (h' : pz_Nd T n r' j') (he : pz_AX T n r j = pz_AX T n r' j') : r = r' ∧ j = j' := by
  obtain ⟨τ, h1, h2, h3, h4, h5, h6, h7⟩ := pz_AX_r hR h
  obtain ⟨τ', k1, k2, k3, k4, k5, k6, k7⟩ := pz_AX_r hR h'
  have hr : r ≤ 2 := by obtain ⟨_, h | h⟩ := h <;> omega
  have hr' : r' ≤ 2 := by obtain ⟨_, h | h⟩ := h' <;> omega
  have key : τ = τ' := by
    by_cases c1 : τ < τ'
    · have := pz_W_mono (T := T) (show τ + 1 ≤ τ' by omega)
      exfalso
      split at h3 <;> split at h4 <;> split at k3 <;> split at k4 <;> omega
    · by_cases c2 : τ' < τ
      · have := pz_W_mono (T := T) (show τ' + 1 ≤ τ by omega)
        exfalso
        split at h3 <;> split at h4 <;> split at k3 <;> split at k4 <;> omega
      · omega
  subst key
  by_cases z : r = 0
  · by_cases z' : r' = 0
    · refine ⟨by omega, ?_⟩
      have m1 : ¬ pz_mk T j := by obtain ⟨_, h | h⟩ := h <;> first | exact h.2.2 | omega
      have m2 : ¬ pz_mk T j' := by obtain ⟨_, h | h⟩ := h' <;> first | exact h.2.2 | omega
      exact pz_run_eq h5 k5 h2 k2 m1 m2
    · exact absurd (k7 z').2 (h6 z)
  · by_cases z' : r' = 0
    · exact absurd (h7 z).2 (k6 z')
    · have a1 := (h7 z).1
      have a2 := (k7 z').1
      refine ⟨?_, by omega⟩
      split at h3 <;> split at k3 <;> omega
theorem pz_AY_r (hR : pz_Rd T n) (h : pz_Nd T n r j) : ∃ e b o, e ≤ n ∧ j ≤ b ∧ b < e ∧ pz_cb T (e - 1) = b ∧ pz_P T e = pz_P T (e - 1) + (1 + 2 * pz_qn T b) ∧ (∀ i, j ≤ i → i < b → T i = 2) ∧ b - j ≤ pz_qn T b ∧ pz_AY T n r j = pz_P T (e - 1) + o ∧
    ((r = 0 ∧ o = 2 * pz_qn T b) ∨ (r = 1 ∧ j < b ∧ o = 2 * (b - 1 - j) + 1) ∨ (r = 2 ∧ j < b ∧ o = 2 * (b - 1 - j))) := by
  obtain ⟨hj, h⟩ := h
  have h1 : T j ≠ 1 := by omega
  obtain ⟨e, he, hF⟩ := pz_Fm_ex hR hj h1
  obtain ⟨hn, b, hb, a1, a2, a3, a4⟩ := pz_nx_eq hF he
  have hc := pz_cb_eq a4
  have hP := pz_P_s a4
  have hq := pz_qn_ge a3 a1
  rcases h with ⟨rfl, _, h2⟩ | ⟨h1 | h1, h2⟩
  · exact ⟨e, b, _, he, a1, a2, hc, hP, a3, hq, by simp only [pz_AY, hn]; omega, Or.inl ⟨rfl, rfl⟩⟩
  · have hjb : j < b := by
      by_cases z : j = b
      · subst z; omega
      · omega
    subst h1
    exact ⟨e, b, _, he, a1, a2, hc, hP, a3, hq, by simp only [pz_AY, hn, hb]; rw [Nat.add_assoc], Or.inr (Or.inl ⟨rfl, hjb, rfl⟩)⟩
  · have hjb : j < b := by
      by_cases z : j = b
      · subst z; omega
      · omega
    subst h1
    exact ⟨e, b, _, he, a1, a2, hc, hP, a3, hq, by simp only [pz_AY, hn, hb], Or.inr (Or.inr ⟨rfl, hjb, rfl⟩)⟩
theorem pz_AY_lt (hR : pz_Rd T n) (h : pz_Nd T n r j) : pz_AY T n r j < pz_P T n := by
  obtain ⟨e, b, o, h1, h2, h3, h4, h5, h6, h7, h8, h9⟩ := pz_AY_r hR h
  have := pz_P_mono (T := T) h1
  omega
theorem pz_AY_inj (hR : pz_Rd T n) (h : pz_Nd T n r j) (h' : pz_Nd T n r' j') (he : pz_AY T n r j = pz_AY T n r' j') : r = r' ∧ j = j' := by
  obtain ⟨e, b, o, h1, h2, h3, h4, h5, h6, h7, h8, h9⟩ := pz_AY_r hR h
  obtain ⟨e', b', o', k1, k2, k3, k4, k5, k6, k7, k8, k9⟩ := pz_AY_r hR h'
  have key : e = e' := by
    by_cases c1 : e < e'
    · have := pz_P_mono (T := T) (show e ≤ e' - 1 by omega)
      omega
    · by_cases c2 : e' < e
      · have := pz_P_mono (T := T) (show e' ≤ e - 1 by omega)
        omega
      · omega
  subst key
  have hb : b = b' := by rw [← h4, ← k4]
  subst hb
  by_cases z : r = 0
  · by_cases z' : r' = 0
    · refine ⟨by omega, ?_⟩
      have m1 : ¬ pz_mk T j := by obtain ⟨_, h | h⟩ := h <;> first | exact h.2.2 | omega
      have m2 : ¬ pz_mk T j' := by obtain ⟨_, h | h⟩ := h' <;> first | exact h.2.2 | omega
      exact pz_run_eq h6 k6 h2 k2 m1 m2
    · omega
  · omega
theorem pz_mo_le {k : Nat} : ∀ t, pz_mo T k t ≤ t := by
  intro t
  induction t with
  | zero => exact Nat.le_refl _
  | succ t ih => rw [pz_mo]; split <;> omega
theorem pz_cb_le {t : Nat} : pz_cb T t ≤ t := by
  unfold pz_cb
  split
  · exact pz_mo_le t
  · exact Nat.le_refl _
theorem pz_qn_le : pz_qn T b ≤ b := by
  induction b with
  | zero => exact Nat.le_refl _
  | succ b ih => rw [pz_qn]; split <;> omega
theorem pz_P_le : ∀ t, t ≤ 70 → pz_P T t ≤ 141 * t := by
  intro t
  induction t with
  | zero => intro _; exact Nat.le_refl _
  | succ t ih =>
    intro h
    have a := ih (by omega)
    have b := pz_cb_le (T := T) (t := t)
    have c := pz_qn_le (T := T) (b := pz_cb T t)
    rw [pz_P]
    split <;> omega
end
