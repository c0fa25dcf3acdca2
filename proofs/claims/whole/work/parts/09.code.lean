/-! code by positions: lists and their lengths, heads, names -/
def pz_Ln (T : Nat → Nat) (n : Nat) : Nat → Nat → Prop
  | 0, p => ¬ (p < n ∧ T p ≠ 1)
  | k + 1, p => p < n ∧ T p ≠ 1 ∧ pz_Ln T n k (pz_nx T n p)
def ls_P (T : Nat → Nat) (n p : Nat) : Prop := p ≤ n ∧ pz_CL T p ∧ ¬ pz_mk T p
/-- the names of a lambda at p: c of them -/
def na_L (T : Nat → Nat) (p c : Nat) : Prop := T p = 0 ∧ c ≤ 4 ∧ (∀ i, i < c → 30 ≤ T (p + 1 + i) ∧ T (p + 1 + i) ≤ 39) ∧ T (p + 1 + c) = 1
/-- at most f names from q on, none twice, then the end of the list -/
def na_b (t : Nat) : Int32 := 1 <<< (nI (t - 30) &&& 31)
def na_W (T : Nat → Nat) : Nat → Nat → Int32 → Prop
  | 0, q, _ => T q = 1
  | f + 1, q, s => T q = 1 ∨ ((30 ≤ T q ∧ T q ≤ 39) ∧ (s &&& na_b (T q)) = 0 ∧ na_W T f (q + 1) (s ||| na_b (T q)))
theorem na_W_L {T : Nat → Nat} : ∀ f q s, na_W T f q s → ∃ c, c ≤ f ∧ (∀ i, i < c → 30 ≤ T (q + i) ∧ T (q + i) ≤ 39) ∧ T (q + c) = 1 := by
  intro f
  induction f with
  | zero => intro q s h; exact ⟨0, by omega, fun i hi => by omega, h⟩
  | succ f ih =>
    intro q s h
    rcases h with h | ⟨h1, _, h2⟩
    · exact ⟨0, by omega, fun i hi => by omega, h⟩
    · obtain ⟨c, a1, a2, a3⟩ := ih _ _ h2
      refine ⟨c + 1, by omega, fun i hi => ?_, by rw [show q + (c + 1) = q + 1 + c by omega]; exact a3⟩
      cases i with
      | zero => exact h1
      | succ i => rw [show q + (i + 1) = q + 1 + i by omega]; exact a2 i (by omega)
section
variable {T : Nat → Nat} {n p e j k py px np nc : Nat} {FY RY FX RX : Nat → Int64} {M : Nat → Nat → Prop}
theorem pz_D0n_e (h : pz_Fm T p e) (hd : ¬ pz_D0 T p) : ¬ pz_D0 T e := fun z => hd ⟨fun c => z.1 ((pz_CL_e h).mpr c), fun c => z.2 ((pz_QC_e h).mpr c)⟩
theorem pz_CL_nD0 (h : pz_CL T p) : ¬ pz_D0 T p := fun z => z.1 h
theorem pz_QC_nD0 (h : pz_QC T p) : ¬ pz_D0 T p := fun z => z.2 h
theorem pz_Ln_ex (hR : pz_Rd T n) : ∀ d p, n - p = d → p ≤ n → ∃ k, pz_Ln T n k p ∧ k ≤ d := by
  intro d
  induction d using Nat.strongRecOn with
  | ind d ih =>
    intro p hd hp
    by_cases c : p < n ∧ T p ≠ 1
    · obtain ⟨h1, h2⟩ := pz_nx_ok hR c.1 c.2
      have h3 := pz_Fm_lt h2
      obtain ⟨k, h4, h5⟩ := ih (n - pz_nx T n p) (by omega) _ rfl h1
      exact ⟨k + 1, ⟨c.1, c.2, h4⟩, by omega⟩
    · exact ⟨0, c, by omega⟩
theorem pz_Ln_u : ∀ k m p, pz_Ln T n k p → pz_Ln T n m p → k = m := by
  intro k
  induction k with
  | zero =>
    intro m p h1 h2
    cases m with
    | zero => rfl
    | succ m => exact absurd ⟨h2.1, h2.2.1⟩ h1
  | succ k ih =>
    intro m p h1 h2
    cases m with
    | zero => exact absurd ⟨h1.1, h1.2.1⟩ h2
    | succ m => rw [ih m _ h1.2.2 h2.2.2]
theorem cd_yl_p (h : p < n) (h1 : T p ≠ 1) : cd_yl T n p = zv_c 3 (pz_AY T n 0 p) := by
  unfold cd_yl pz_lst
  rw [if_pos ⟨h, h1⟩]
theorem cd_yl_e (h : ¬ (p < n ∧ T p ≠ 1)) : cd_yl T n p = zv_c 2 0 := by
  unfold cd_yl pz_lst
  rw [if_neg h]
theorem cd_xl_p (h : p < n) (h1 : T p ≠ 1) : cd_xl T n p = zv_c 2 (pz_AX T n 0 p) := by
  unfold cd_xl pz_lst
  rw [if_pos ⟨h, h1⟩]
theorem cd_xl_e (h : ¬ (p < n ∧ T p ≠ 1)) : cd_xl T n p = zv_c 3 0 := by
  unfold cd_xl pz_lst
  rw [if_neg h]
theorem cd_yv_0 (h : T j = 0) : cd_yv T n j = cd_yl T n (j + 1) := by
  unfold cd_yv pz_val
  rw [if_pos h]
  rfl
theorem cd_xv_0 (h : T j = 0) : cd_xv T n j = cd_xl T n (j + 1) := by
  unfold cd_xv pz_val
  rw [if_pos h]
  rfl
theorem cd_yv_2 (h : T j = 2) : cd_yv T n j = zv_c 3 (pz_AY T n 1 j) := by
  unfold cd_yv pz_val
  rw [if_neg (by omega), if_pos h]
theorem cd_xv_2 (h : T j = 2) : cd_xv T n j = zv_c 2 (pz_AX T n 1 j) := by
  unfold cd_xv pz_val
  rw [if_neg (by omega), if_pos h]
theorem cd_yv_a (h : 3 ≤ T j) : cd_yv T n j = zv_yA (T j) := by
  unfold cd_yv pz_val
  rw [if_neg (by omega), if_neg (by omega)]
theorem cd_xv_a (h : 3 ≤ T j) : cd_xv T n j = zv_xA (T j) := by
  unfold cd_xv pz_val
  rw [if_neg (by omega), if_neg (by omega)]
/-- a cell of code -/
theorem cd_cell (hc : cd_OK T n FY RY FX RX) (hb : ∀ r j, pz_Nd T n r j → pz_AY T n r j < py ∧ pz_AX T n r j < px) (hp : p < n) (h1 : T p ≠ 1) (hm : ¬ pz_mk T p) (hd : ¬ pz_D0 T p) :
    pz_AY T n 0 p < py ∧ pz_AX T n 0 p < px ∧ FY (pz_AY T n 0 p) = cd_yv T n p ∧ RY (pz_AY T n 0 p) = cd_yl T n (pz_nx T n p) ∧ FX (pz_AX T n 0 p) = cd_xv T n p ∧ RX (pz_AX T n 0 p) = cd_xl T n (pz_nx T n p) :=
  ⟨(hb 0 p ⟨hp, Or.inl ⟨rfl, h1, hm⟩⟩).1, (hb 0 p ⟨hp, Or.inl ⟨rfl, h1, hm⟩⟩).2, hc.1 p hp h1 hm hd⟩
theorem cd_chY (hR : pz_Rd T n) (hc : cd_OK T n FY RY FX RX) (hb : ∀ r j, pz_Nd T n r j → pz_AY T n r j < py ∧ pz_AX T n r j < px) : ∀ k p, pz_Ln T n k p → ¬ pz_mk T p → ¬ pz_D0 T p → ch_N RY (zv_c 3) (zv_c 2 0) py k (cd_yl T n p) := by
  intro k
  induction k with
  | zero => intro p h _ _; exact cd_yl_e h
  | succ k ih =>
    intro p ⟨h1, h2, h3⟩ h4 h5
    obtain ⟨a1, _, _, a4, _⟩ := cd_cell hc hb h1 h2 h4 h5
    obtain ⟨_, hF⟩ := pz_nx_ok hR h1 h2
    refine ⟨_, a1, cd_yl_p h1 h2, ?_⟩
    rw [a4]
    exact ih _ h3 (pz_Fm_nmk hF) (pz_D0n_e hF h5)
theorem cd_chX (hR : pz_Rd T n) (hc : cd_OK T n FY RY FX RX) (hb : ∀ r j, pz_Nd T n r j → pz_AY T n r j < py ∧ pz_AX T n r j < px) : ∀ k p, pz_Ln T n k p → ¬ pz_mk T p → ¬ pz_D0 T p → ch_N RX (zv_c 2) (zv_c 3 0) px k (cd_xl T n p) := by
  intro k
  induction k with
  | zero => intro p h _ _; exact cd_xl_e h
  | succ k ih =>
    intro p ⟨h1, h2, h3⟩ h4 h5
    obtain ⟨_, a1, _, _, _, a4⟩ := cd_cell hc hb h1 h2 h4 h5
    obtain ⟨_, hF⟩ := pz_nx_ok hR h1 h2
    refine ⟨_, a1, cd_xl_p h1 h2, ?_⟩
    rw [a4]
    exact ih _ h3 (pz_Fm_nmk hF) (pz_D0n_e hF h5)
theorem pz_nx_a (h : 3 ≤ T j) : pz_nx T n j = j + 1 := by
  unfold pz_nx
  rw [pz_bs_n (by omega), if_neg (by omega)]
theorem ls_nx (hR : pz_Rd T n) (h : ls_P T n p) (hp : p < n) (h1 : T p ≠ 1) : ls_P T n (pz_nx T n p) := by
  obtain ⟨a, hF⟩ := pz_nx_ok hR hp h1
  exact ⟨a, (pz_CL_e hF).mpr h.2.1, pz_Fm_nmk hF⟩
theorem ls_0 : ls_P T n 0 := ⟨by omega, pz_CL_0, pz_mk_0⟩
/-- inside the "(" of a code form -/
theorem cd_in (hR : pz_Rd T n) (hj : j < n) (h0 : T j = 0) (hc : pz_CF T j) : j + 1 < n ∧ ¬ pz_mk T (j + 1) ∧ ¬ pz_D0 T (j + 1) ∧ (T (j + 1) ≠ 40 → ls_P T n (j + 1)) ∧ (T (j + 1) = 40 → pz_QC T (j + 1)) := by
  obtain ⟨c, h1, h2, h3, _⟩ := xr_nx hR hj h0
  have hm : ¬ pz_mk T (j + 1) := fun z => by have := pz_mk_s.mp z; omega
  refine ⟨by omega, hm, ?_, fun z => ⟨by omega, pz_CL_o h0 hc z, hm⟩, fun z => pz_QC_o h0 hc z⟩
  by_cases z : T (j + 1) = 40
  · exact pz_QC_nD0 (pz_QC_o h0 hc z)
  · exact pz_CL_nD0 (pz_CL_o h0 hc z)
theorem ls_CF (h : ls_P T n p) : pz_CF T p := ⟨h.2.2, h.2.1⟩
end
