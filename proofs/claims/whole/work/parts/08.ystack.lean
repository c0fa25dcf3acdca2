/-! Y's stack of what is begun -/
section
variable {T : Nat → Nat} {n t k m p b e : Nat} {o : Nat → Nat} {H L : Nat → Int32}
theorem yr_n2 {a : Nat} (h : a < 2 ^ 31) : nI a ≠ -2 ∧ nI a ≠ -1 := by
  have h1 := nI_pos h
  constructor
  · intro z; rw [z] at h1; exact h1 (by decide)
  · intro z; rw [z] at h1; exact h1 (by decide)
theorem yr_sg_q (h : yr_sg T n o H L k) (h2 : H k = -2) (hn : o (k + 1) ≤ n) (hP : pz_P T n < 2 ^ 31) : 1 ≤ k ∧ T (o k) = 2 ∧ o (k + 1) = o k + 1 := by
  rcases h with ⟨a, c, _, d⟩ | ⟨_, _, _, _, ⟨_, c, _⟩ | ⟨e, _, f1, f2, _, _, _, c, _⟩⟩
  · exact ⟨a, c, d⟩
  · rw [h2] at c; exact absurd c (by decide)
  · rw [h2] at c
    have := yr_lt f1 (n := n) (t := n) (by omega) (by omega)
    exact absurd c.symm (yr_n2 (by omega)).1
theorem yr_sg_l (h : yr_sg T n o H L k) (h2 : H k ≠ -2) : (k = 0 ∨ T (o k) = 0) ∧ yr_s o k ≤ o (k + 1) ∧ pz_dd T (o (k + 1)) = pz_dd T (yr_s o k) ∧ (∀ j, yr_s o k ≤ j → j ≤ o (k + 1) → pz_dd T (yr_s o k) ≤ pz_dd T j) ∧
    ((yr_s o k = o (k + 1) ∧ H k = -1 ∧ L k = -1) ∨
     (∃ e p, pz_Fm T (yr_s o k) e ∧ e ≤ o (k + 1) ∧ pz_Fm T p (o (k + 1)) ∧ yr_s o k ≤ p ∧ ¬ pz_mk T p ∧ H k = nI (pz_AY T n 0 (yr_s o k)) ∧ L k = nI (pz_AY T n 0 p))) := by
  rcases h with ⟨_, _, c, _⟩ | h
  · exact absurd c h2
  · exact h
theorem yr_s_nF (h : k = 0 ∨ T (o k) = 0) (q : Nat) : ¬ pz_Fm T q (yr_s o k) := by
  intro z
  have h1 := pz_Fm_lt z
  have h2 := pz_Fm_last z
  unfold yr_s at h1 h2
  by_cases c : k = 0
  · rw [if_pos c] at h1; omega
  · rw [if_neg c, Nat.add_sub_cancel] at h2
    omega
theorem yr_s_nmk (h : k = 0 ∨ T (o k) = 0) : ¬ pz_mk T (yr_s o k) := by
  unfold yr_s
  by_cases c : k = 0
  · rw [if_pos c]; exact pz_mk_0
  · rw [if_neg c]
    intro z
    have := pz_mk_s.mp z
    omega
theorem yr_sg_nmk (h : yr_sg T n o H L k) (h2 : H k ≠ -2) : ¬ pz_mk T (o (k + 1)) := by
  obtain ⟨h1, _, _, _, ⟨h3, _⟩ | ⟨e, p, _, _, h4, _⟩⟩ := yr_sg_l h h2
  · rw [← h3]; exact yr_s_nmk h1
  · exact pz_Fm_nmk h4
/-- the top of the stack and the depth -/
theorem yr_top0 (h : yr_sg T n o H L 0) : pz_dd T (o 1) = 0 ∧ ¬ pz_mk T (o 1) := by
  rcases h with ⟨a, _⟩ | h
  · omega
  · have h' := h
    obtain ⟨_, _, h1, _⟩ := h
    refine ⟨by rw [h1]; rfl, ?_⟩
    obtain ⟨h1, _, _, _, ⟨h3, _⟩ | ⟨e, p, _, _, h4, _⟩⟩ := h'
    · rw [← h3]; exact yr_s_nmk h1
    · exact pz_Fm_nmk h4
theorem yr_topq (h : yr_sg T n o H L k) (h2 : H k = -2) (hn : o (k + 1) ≤ n) (hP : pz_P T n < 2 ^ 31) : pz_mk T (o (k + 1)) := by
  obtain ⟨a, c, d⟩ := yr_sg_q h h2 hn hP
  rw [d]
  exact pz_mk_s.mpr c
theorem yr_topl (h : yr_sg T n o H L k) (h2 : H k ≠ -2) (hk : 1 ≤ k) : 1 ≤ pz_dd T (o (k + 1)) := by
  obtain ⟨h1, _, h3, _⟩ := yr_sg_l h h2
  have h0 : T (o k) = 0 := by omega
  rw [h3]
  unfold yr_s
  rw [if_neg (by omega), pz_dd_o h0]
  omega
/-- a ")" ends the list on top -/
theorem yr_close (h : yr_sg T n o H L k) (h2 : H k ≠ -2) (hk : 1 ≤ k) (ht : o (k + 1) = t) (h1 : T t = 1) : T (o k) = 0 ∧ o k + 1 < t + 1 ∧ T (t + 1 - 1) = 1 ∧ pz_dd T (t + 1) = pz_dd T (o k) ∧ ∀ j, o k < j → j < t + 1 → pz_dd T (o k) < pz_dd T j := by
  obtain ⟨a1, a2, a3, a4, _⟩ := yr_sg_l h h2
  have h0 : T (o k) = 0 := by omega
  have hs : yr_s o k = o k + 1 := by unfold yr_s; rw [if_neg (by omega)]
  rw [hs, ht] at a2 a4
  rw [hs, ht, pz_dd_o h0] at a3
  rw [pz_dd_o h0] at a4
  refine ⟨h0, by omega, by rw [Nat.add_sub_cancel]; exact h1, by rw [pz_dd_c h1]; omega, fun j c d => ?_⟩
  have := a4 j (by omega) (by omega)
  omega
theorem yr_clist (h : yr_sg T n o H L k) (h2 : H k ≠ -2) (ht : o (k + 1) = t) (hn : t < n) (h1 : T t = 1) : (H k = -1 ∧ cd_yl T n (yr_s o k) = zv_c 2 0) ∨ (H k = nI (pz_AY T n 0 (yr_s o k)) ∧ cd_yl T n (yr_s o k) = zv_c 3 (pz_AY T n 0 (yr_s o k)) ∧ pz_AY T n 0 (yr_s o k) < pz_P T t) := by
  obtain ⟨_, a2, _, _, ⟨h3, h4, _⟩ | ⟨e, p, h3, h4, _, _, _, h5, _⟩⟩ := yr_sg_l h h2
  · refine Or.inl ⟨h4, ?_⟩
    unfold cd_yl pz_lst
    rw [h3, ht, if_neg (fun z => z.2 h1)]
  · refine Or.inr ⟨h5, ?_, yr_lt h3 (by omega) (by omega)⟩
    have := pz_Fm_lt h3
    unfold cd_yl pz_lst
    rw [if_pos ⟨by omega, pz_Fm_n1 h3⟩]
/-- the stack when a form is put into the list on top -/
theorem yr_sg_low {o' : Nat → Nat} {H' L' : Nat → Int32} {i : Nat} (h : yr_sg T n o H L i) (e1 : o' i = o i) (e2 : o' (i + 1) = o (i + 1)) (e3 : H' i = H i) (e4 : L' i = L i) : yr_sg T n o' H' L' i := by
  have hs : yr_s o' i = yr_s o i := by unfold yr_s; rw [e1]
  unfold yr_sg at h ⊢
  rw [hs, e1, e2, e3, e4]
  exact h
theorem yr_sg_put {o' : Nat → Nat} {H' L' : Nat → Int32} (h : yr_sg T n o H L k) (h2 : H k ≠ -2) (hp : pz_Fm T (o (k + 1)) e) (hn : e ≤ n) (e1 : o' k = o k) (e2 : o' (k + 1) = e)
    (eL : L' k = nI (pz_AY T n 0 (o (k + 1)))) (eH : H' k = if L k = -1 then nI (pz_AY T n 0 (o (k + 1))) else H k) (hP : pz_P T n < 2 ^ 31) : yr_sg T n o' H' L' k := by
  have hs : yr_s o' k = yr_s o k := by unfold yr_s; rw [e1]
  have hm := yr_sg_nmk h h2
  obtain ⟨a1, a2, a3, a4, a5⟩ := yr_sg_l h h2
  have b1 := pz_Fm_lt hp
  have b2 := pz_Fm_dd hp
  have b3 := pz_Fm_ge hp
  right
  rw [hs, e1, e2]
  refine ⟨a1, by omega, by omega, fun j c d => ?_, Or.inr ?_⟩
  · by_cases z : j ≤ o (k + 1)
    · exact a4 j c z
    · have := b3 j (by omega) d
      omega
  · rcases a5 with ⟨c1, c2, c3⟩ | ⟨e', p, c1, c2, c3, c4, c5, c6, c7⟩
    · rw [c3, if_pos rfl] at eH
      exact ⟨e, o (k + 1), by rw [c1]; exact hp, Nat.le_refl _, hp, a2, hm, by rw [eH, c1], eL⟩
    · have hl := yr_lt c3 (n := n) (t := n) (by omega) (by omega)
      rw [c7, if_neg (yr_n2 (by omega)).2] at eH
      exact ⟨e', o (k + 1), c1, by omega, hp, a2, hm, by rw [eH, c6], eL⟩
end
