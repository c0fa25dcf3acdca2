section
/-! rows of kit/rows (PURE-ROWS, BITS), pasted -/
theorem pk_us {f : Nat → Int32} {k : Nat} {x : Int32} : upd f k x k = x := if_pos rfl
theorem pk_un {f : Nat → Int32} {k j : Nat} {x : Int32} (h : j ≠ k) : upd f k x j = f j := if_neg h
theorem pk_uLs {f : Nat → Int64} {k : Nat} {x : Int64} : vp_updL f k x k = x := if_pos rfl
theorem pk_uLn {f : Nat → Int64} {k j : Nat} {x : Int64} (h : j ≠ k) : vp_updL f k x j = f j := if_neg h
theorem pk_sub {a b : Nat} (h : b ≤ a) : nI a - nI b = nI (a - b) := by
  obtain ⟨c, rfl⟩ : ∃ c, a = c + b := ⟨a - b, by omega⟩
  rw [← nI_add, Int32.add_sub_cancel, Nat.add_sub_cancel]
theorem pk_m1 (n : Nat) : nI (n + 1) + (-1) = nI n := by
  rw [← nI_1, Int32.add_assoc, show (1 : Int32) + (-1) = 0 from rfl, Int32.add_zero]
theorem pk_mul (a b : Nat) : nI a * nI b = nI (a * b) := (Int32.ofNat_mul a b).symm
theorem pk_sub_toInt {a b : Nat} (ha : a < 2 ^ 30) (hb : b < 2 ^ 30) : (nI a - nI b).toInt = (a : Int) - b := by
  rw [Int32.toInt_sub, nI_toInt (by omega), nI_toInt (by omega)]
  exact Int.bmod_eq_of_le (by omega) (by omega)
theorem pk_sneg {a b : Nat} (hb : b < 2 ^ 30) (h : a < b) : nI a - nI b < 0 := by
  rw [Int32.lt_iff_toInt_lt, pk_sub_toInt (by omega) hb, show (0 : Int32).toInt = 0 from by decide]
  omega
theorem pk_ix (x : Int32) {n : Nat} (hn : n < 2 ^ 31) : x < 0 ∨ nI n ≤ x ∨ ∃ j : Nat, j < n ∧ x = nI j := by
  by_cases h : x < 0
  · exact Or.inl h
  · obtain ⟨j, hj, rfl⟩ := nI_of h
    by_cases h2 : j < n
    · exact Or.inr (Or.inr ⟨j, h2, rfl⟩)
    · exact Or.inr (Or.inl (nI_le (by omega) hj))
theorem pk_le {x y : Int32} {A B : Prop} (a b : Nat) (f : a ≤ b → A) (g : b < a → B) (hx : x = nI a := by rfl) (hy : y = nI b := by rfl) (ha : a < 2 ^ 31 := by omega) (hb : b < 2 ^ 31 := by omega) : (x ≤ y → A) ∧ (¬ x ≤ y → B) := by
  subst hx hy
  rw [nI_leI ha hb]
  exact ⟨f, fun z => g (by omega)⟩
theorem pk_lt {x y : Int32} {A B : Prop} (a b : Nat) (f : a < b → A) (g : b ≤ a → B) (hx : x = nI a := by rfl) (hy : y = nI b := by rfl) (ha : a < 2 ^ 31 := by omega) (hb : b < 2 ^ 31 := by omega) : (x < y → A) ∧ (¬ x < y → B) := by
  subst hx hy
  rw [nI_ltI ha hb]
  exact ⟨f, fun z => g (by omega)⟩
theorem pk_eq {x y : Int32} {A B : Prop} (a b : Nat) (f : a = b → A) (g : a ≠ b → B) (hx : x = nI a := by rfl) (hy : y = nI b := by rfl) (ha : a < 2 ^ 31 := by omega) (hb : b < 2 ^ 31 := by omega) : (x = y → A) ∧ (¬ x = y → B) := by
  subst hx hy
  rw [nI_eq ha hb]
  exact ⟨f, g⟩
theorem pk_in {x : Int32} (n N : Nat) (h : n < N) (hx : x = nI n := by rfl) (hN : N < 2 ^ 31 := by omega) : vp_in x N := by
  subst hx
  exact vp_in_nI h hN
theorem pk_cl {x : Int32} (n : Nat) (hx : x = nI n := by rfl) (h : n < 2 ^ 31 := by omega) : x.toNatClampNeg = n := by
  subst hx
  exact nI_clamp h
theorem pk_tn {n : Nat} (h : n < 2 ^ 32) : (nI n).toBitVec.toNat = n := Nat.mod_eq_of_lt h
theorem pk_and (x : Int32) {m : Int32} (k : Nat) (hm : m.toBitVec.toNat = 2 ^ k - 1) : x &&& m = nI (x.toBitVec.toNat % 2 ^ k) := by
  apply Int32.toBitVec_inj.mp
  apply BitVec.eq_of_toNat_eq
  rw [Int32.toBitVec_and, BitVec.toNat_and, hm, Nat.and_two_pow_sub_one_eq_mod]
  show _ = (BitVec.ofNat 32 _).toNat
  rw [BitVec.toNat_ofNat]
  exact (Nat.mod_eq_of_lt (Nat.lt_of_le_of_lt (Nat.mod_le _ _) x.toBitVec.isLt)).symm
theorem pk_andN {n : Nat} (h : n < 2 ^ 32) {m : Int32} (k : Nat) (hm : m.toBitVec.toNat = 2 ^ k - 1) : nI n &&& m = nI (n % 2 ^ k) := by
  rw [pk_and _ k hm, pk_tn h]
theorem pk_shl (a s : Int32) (k : Nat) (hs : (s.toBitVec.smod 32).toNat = k) : (a <<< s).toBitVec.toNat = a.toBitVec.toNat * 2 ^ k % 2 ^ 32 := by
  show (a.toBitVec <<< (s.toBitVec.smod 32).toNat).toNat = _
  rw [hs, BitVec.toNat_shiftLeft, Nat.shiftLeft_eq]
theorem pk_shlN {n : Nat} (s : Int32) (k : Nat) (hs : (s.toBitVec.smod 32).toNat = k) (h : n * 2 ^ k < 2 ^ 32) : nI n <<< s = nI (n * 2 ^ k) := by
  apply Int32.toBitVec_inj.mp
  apply BitVec.eq_of_toNat_eq
  have hn : n < 2 ^ 32 := Nat.lt_of_le_of_lt (Nat.le_mul_of_pos_right n (Nat.two_pow_pos k)) h
  rw [pk_shl _ _ k hs, pk_tn hn, pk_tn h, Nat.mod_eq_of_lt h]
theorem pk_lT {n : Nat} (h : n < 2 ^ 63) : (lN n).toInt = (n : Int) := lg_ofNat_toInt h
theorem pk_lLT {a b : Nat} (ha : a < 2 ^ 63) (hb : b < 2 ^ 63) : lN a < lN b ↔ a < b := by
  rw [Int64.lt_iff_toInt_lt, pk_lT ha, pk_lT hb]; omega
theorem pk_lLE {a b : Nat} (ha : a < 2 ^ 63) (hb : b < 2 ^ 63) : lN a ≤ lN b ↔ a ≤ b := by
  rw [Int64.le_iff_toInt_le, pk_lT ha, pk_lT hb]; omega
theorem pk_lEQ {a b : Nat} (ha : a < 2 ^ 63) (hb : b < 2 ^ 63) : lN a = lN b ↔ a = b := by
  rw [← Int64.toInt_inj, pk_lT ha, pk_lT hb]; omega
theorem pk_lOf {x : Int64} (h : ¬ x < 0) : ∃ k : Nat, k < 2 ^ 63 ∧ x = lN k := by
  rw [Int64.lt_iff_toInt_lt] at h
  have h0 : (0 : Int64).toInt = 0 := by decide
  have hx := Int64.toInt_lt x
  refine ⟨x.toInt.toNat, by omega, Int64.toInt_inj.mp ?_⟩
  rw [pk_lT (by omega)]
  omega
theorem pk_loop {σ : Type} (W : Nat → Nat → σ → Prop) (I : Nat → σ → Prop) (e i0 : Nat) (s : σ) (hi : i0 ≤ e) (h0 : I i0 s) (hx : ∀ n s, I e s → W (n + 1) e s)
    (hs : ∀ n i s, i < e → I i s → (∀ s', I (i + 1) s' → W n (i + 1) s') → W (n + 1) i s) : ∃ n, W n i0 s :=
  ⟨e + 1, loop_i W I e hx hs (e + 1) i0 s hi (by omega) h0⟩
theorem pk_loopD {σ : Type} (W : Nat → Nat → σ → Prop) (I : Nat → σ → Prop) (hx : ∀ n s, I 0 s → W (n + 1) 0 s)
    (hs : ∀ n i s, I (i + 1) s → (∀ s', I i s' → W n i s') → W (n + 1) (i + 1) s) : ∀ (e : Nat) (s : σ), I e s → W (e + 1) e s := by
  intro e
  induction e with
  | zero => exact fun s h => hx 0 s h
  | succ e ih => exact fun s h => hs (e + 1) e s h (fun s' h' => ih s' h')
theorem pk_least (P : Nat → Prop) (h : ∃ k, P k) : ∃ k, P k ∧ ∀ j, j < k → ¬ P j := by
  obtain ⟨k, hk⟩ := h
  induction k using Nat.strongRecOn with
  | ind k ih =>
    by_cases e : ∃ j, j < k ∧ P j
    · obtain ⟨j, hj, pj⟩ := e
      exact ih j hj pj
    · exact ⟨k, hk, fun j hj pj => e ⟨j, hj, pj⟩⟩
theorem wb_tb (n : Nat) : (lN n).toBitVec = BitVec.ofNat 64 n := rfl
theorem wb_inj {a b : Int64} (h : a.toBitVec = b.toBitVec) : a = b := Int64.toBitVec_inj.mp h
theorem wb_tn {n : Nat} (h : n < 2 ^ 64) : (lN n).toBitVec.toNat = n := by rw [wb_tb, BitVec.toNat_ofNat, Nat.mod_eq_of_lt h]
theorem wb_of (x : Int64) : ∃ n, n < 2 ^ 64 ∧ x = lN n := ⟨x.toBitVec.toNat, x.toBitVec.isLt, wb_inj (by rw [wb_tb]; simp)⟩
theorem wb_of32 (x : Int32) : ∃ n, n < 2 ^ 32 ∧ x = nI n := ⟨x.toBitVec.toNat, x.toBitVec.isLt, Int32.toBitVec_inj.mp (by show _ = BitVec.ofNat 32 _; simp)⟩
theorem wb_c : ∀ k, k < 64 → ((nI k).toInt64 &&& 63) = lN k := by decide +kernel
theorem wb_sm : ∀ k, k < 64 → (BitVec.ofNat 64 k).smod 64 = BitVec.ofNat 64 k := by decide +kernel
theorem wb_pw {a b : Nat} (h : a ≤ b) : 2 ^ b = 2 ^ a * 2 ^ (b - a) := by rw [← Nat.pow_add]; congr 1; omega
theorem wb_lt2 {a b : Nat} (h : a < b) : 2 ^ a < 2 ^ b := Nat.pow_lt_pow_right (by decide) h
theorem wb_mod (n : Nat) : lN n = lN (n % 2 ^ 64) := wb_inj (by rw [wb_tb, wb_tb]; apply BitVec.eq_of_toNat_eq; rw [BitVec.toNat_ofNat, BitVec.toNat_ofNat, Nat.mod_mod])
theorem wb_shl (n : Nat) {k : Nat} (hk : k < 64) : lN n <<< ((nI k).toInt64 &&& 63) = lN (n * 2 ^ k) := by
  rw [wb_c k hk]
  apply wb_inj
  rw [Int64.toBitVec_shiftLeft, wb_tb, wb_tb, wb_tb, wb_sm k hk]
  apply BitVec.eq_of_toNat_eq
  rw [BitVec.shiftLeft_eq', BitVec.toNat_shiftLeft, BitVec.toNat_ofNat, BitVec.toNat_ofNat, BitVec.toNat_ofNat, Nat.mod_eq_of_lt (show k < 2 ^ 64 by omega), Nat.shiftLeft_eq, Nat.mul_mod, Nat.mod_mod, ← Nat.mul_mod]
theorem wb_and {a b : Nat} (ha : a < 2 ^ 64) (hb : b < 2 ^ 64) : lN a &&& lN b = lN (a &&& b) := by
  apply wb_inj
  rw [Int64.toBitVec_and, wb_tb, wb_tb, wb_tb]
  apply BitVec.eq_of_toNat_eq
  rw [BitVec.toNat_and, BitVec.toNat_ofNat, BitVec.toNat_ofNat, BitVec.toNat_ofNat, Nat.mod_eq_of_lt ha, Nat.mod_eq_of_lt hb, Nat.mod_eq_of_lt (Nat.and_lt_two_pow _ hb)]
theorem wb_or {a b : Nat} (ha : a < 2 ^ 64) (hb : b < 2 ^ 64) : lN a ||| lN b = lN (a ||| b) := by
  apply wb_inj
  rw [Int64.toBitVec_or, wb_tb, wb_tb, wb_tb]
  apply BitVec.eq_of_toNat_eq
  rw [BitVec.toNat_or, BitVec.toNat_ofNat, BitVec.toNat_ofNat, BitVec.toNat_ofNat, Nat.mod_eq_of_lt ha, Nat.mod_eq_of_lt hb, Nat.mod_eq_of_lt (Nat.or_lt_two_pow ha hb)]
theorem wb_mask {n k : Nat} (hn : n < 2 ^ 64) (hk : k < 64) : lN n &&& lN (2 ^ k - 1) = lN (n % 2 ^ k) := by
  rw [wb_and hn (by have := wb_lt2 hk; omega), Nat.and_two_pow_sub_one_eq_mod]
end
section
/-! the text by positions: depth, ends of forms, weights, addresses, which places are code -/
def pz_dd (T : Nat → Nat) : Nat → Nat
  | 0 => 0
  | i + 1 => if T i = 0 then pz_dd T i + 1 else if T i = 1 then pz_dd T i - 1 else pz_dd T i
def pz_mk (T : Nat → Nat) (i : Nat) : Prop := 0 < i ∧ T (i - 1) = 2
def pz_ok (T : Nat → Nat) (i : Nat) : Prop := T i = 1 → 1 ≤ pz_dd T i ∧ ¬ pz_mk T i
def pz_Rd (T : Nat → Nat) (n : Nat) : Prop := (∀ i, i < n → pz_ok T i) ∧ pz_dd T n = 0 ∧ ¬ pz_mk T n
def pz_ww (T : Nat → Nat) : Nat → Nat
  | 0 => 0
  | i + 1 => if pz_dd T (i + 1) = 0 ∧ T i ≠ 2 then pz_ww T i + 1 else pz_ww T i
def pz_w (t : Nat) : Nat := if t = 1 then 0 else if t = 2 then 2 else 1
def pz_W (T : Nat → Nat) : Nat → Nat
  | 0 => 0
  | i + 1 => pz_W T i + pz_w (T i)
def pz_qn (T : Nat → Nat) : Nat → Nat
  | 0 => 0
  | b + 1 => if T b = 2 then pz_qn T b + 1 else 0
def pz_mo (T : Nat → Nat) (k : Nat) : Nat → Nat
  | 0 => 0
  | t + 1 => if pz_dd T t ≤ k then t else pz_mo T k t
def pz_cb (T : Nat → Nat) (t : Nat) : Nat := if T t = 1 then pz_mo T (pz_dd T (t + 1)) t else t
def pz_P (T : Nat → Nat) : Nat → Nat
  | 0 => 0
  | t + 1 => pz_P T t + (if T t = 0 ∨ T t = 2 then 0 else 1 + 2 * pz_qn T (pz_cb T t))
def pz_bsf (T : Nat → Nat) : Nat → Nat → Nat
  | 0, j => j
  | f + 1, j => if T j = 2 then pz_bsf T f (j + 1) else j
def pz_bs (T : Nat → Nat) (n j : Nat) : Nat := pz_bsf T (n - j) j
def pz_sc (T : Nat → Nat) (k : Nat) : Nat → Nat → Nat
  | 0, i => i
  | f + 1, i => if pz_dd T (i + 1) ≤ k then i else pz_sc T k f (i + 1)
def pz_nx (T : Nat → Nat) (n j : Nat) : Nat :=
  if T (pz_bs T n j) = 0 then pz_sc T (pz_dd T (pz_bs T n j)) (n - (pz_bs T n j + 1)) (pz_bs T n j + 1) + 1 else pz_bs T n j + 1
/-- a form stands at p and ends before e -/
def pz_Fm (T : Nat → Nat) (p e : Nat) : Prop := ∃ b, p ≤ b ∧ (∀ j, p ≤ j → j < b → T j = 2) ∧
  ((3 ≤ T b ∧ e = b + 1) ∨ (T b = 0 ∧ b + 1 < e ∧ T (e - 1) = 1 ∧ pz_dd T e = pz_dd T b ∧ ∀ j, b < j → j < e → pz_dd T b < pz_dd T j))
def pz_in (T : Nat → Nat) (o t : Nat) : Prop := T o = 0 ∧ o < t ∧ ∀ j, o < j → j ≤ t → pz_dd T o < pz_dd T j
def pz_dO (T : Nat → Nat) (o : Nat) : Prop := pz_mk T o ∨ T (o + 1) = 40
def pz_CL (T : Nat → Nat) (p : Nat) : Prop := ∀ o, pz_in T o p → ¬ pz_dO T o
def pz_CF (T : Nat → Nat) (j : Nat) : Prop := ¬ pz_mk T j ∧ pz_CL T j
def pz_QC (T : Nat → Nat) (p : Nat) : Prop := ∃ o, pz_in T o p ∧ pz_dd T o + 1 = pz_dd T p ∧ T (o + 1) = 40 ∧ pz_CF T o
def pz_D0 (T : Nat → Nat) (p : Nat) : Prop := ¬ pz_CL T p ∧ ¬ pz_QC T p

section
variable {T : Nat → Nat} {i j n p e b : Nat}
theorem pz_dd_o (h : T i = 0) : pz_dd T (i + 1) = pz_dd T i + 1 := by simp [pz_dd, h]
theorem pz_dd_c (h : T i = 1) : pz_dd T (i + 1) = pz_dd T i - 1 := by simp [pz_dd, h]
theorem pz_dd_a (h0 : T i ≠ 0) (h1 : T i ≠ 1) : pz_dd T (i + 1) = pz_dd T i := by simp [pz_dd, h0, h1]
theorem pz_dd_le : pz_dd T (i + 1) ≤ pz_dd T i + 1 := by
  by_cases h0 : T i = 0
  · rw [pz_dd_o h0]; omega
  · by_cases h1 : T i = 1
    · rw [pz_dd_c h1]; omega
    · rw [pz_dd_a h0 h1]; omega
theorem pz_mk_s : pz_mk T (i + 1) ↔ T i = 2 := by
  unfold pz_mk
  rw [Nat.add_sub_cancel]
  exact ⟨fun h => h.2, fun h => ⟨by omega, h⟩⟩
theorem pz_mk_0 : ¬ pz_mk T 0 := fun h => absurd h.1 (by omega)
theorem pz_dq (hq : ∀ j, p ≤ j → j < b → T j = 2) : ∀ j, p ≤ j → j ≤ b → pz_dd T j = pz_dd T p := by
  intro j
  induction j with
  | zero => intro h1 _; have h : p = 0 := by omega
            rw [h]
  | succ j ih =>
    intro h1 h2
    by_cases h : p = j + 1
    · rw [h]
    · have e := hq j (by omega) (by omega)
      rw [pz_dd_a (by omega) (by omega)]
      exact ih (by omega) (by omega)
theorem pz_Fm_lt (h : pz_Fm T p e) : p < e := by
  obtain ⟨b, h1, _, h | h⟩ := h <;> omega
theorem pz_Fm_dd (h : pz_Fm T p e) : pz_dd T e = pz_dd T p := by
  obtain ⟨b, h1, hq, h⟩ := h
  have hb := pz_dq hq b h1 (Nat.le_refl _)
  rcases h with ⟨ha, rfl⟩ | ⟨h0, h2, h3, h4, h5⟩
  · rw [pz_dd_a (by omega) (by omega), hb]
  · rw [h4, hb]
theorem pz_Fm_ge (h : pz_Fm T p e) : ∀ j, p ≤ j → j ≤ e → pz_dd T p ≤ pz_dd T j := by
  have he := pz_Fm_dd h
  obtain ⟨b, h1, hq, h⟩ := h
  have hb := pz_dq hq
  intro j hj hje
  by_cases hjb : j ≤ b
  · exact Nat.le_of_eq (hb j hj hjb).symm
  · by_cases hje' : j = e
    · rw [hje']; omega
    · have hbb := hb b h1 (Nat.le_refl _)
      rcases h with ⟨ha, h9⟩ | ⟨h0, h2, h3, h4, h5⟩
      · omega
      · have := h5 j (by omega) (by omega); omega
theorem pz_Fm_last (h : pz_Fm T p e) : T (e - 1) ≠ 2 ∧ T (e - 1) ≠ 0 := by
  obtain ⟨b, h1, _, ⟨h, rfl⟩ | h⟩ := h
  · rw [Nat.add_sub_cancel]; omega
  · omega
theorem pz_Fm_nmk (h : pz_Fm T p e) : ¬ pz_mk T e := fun z => (pz_Fm_last h).1 z.2
theorem pz_Fm_n1 (h : pz_Fm T p e) : T p ≠ 1 := by
  obtain ⟨b, h1, hq, h⟩ := h
  by_cases hb : p = b
  · subst hb; omega
  · have := hq p (Nat.le_refl _) (by omega); omega
theorem pz_Fm_q (h : pz_Fm T (p + 1) e) (h2 : T p = 2) : pz_Fm T p e := by
  obtain ⟨b, h1, hq, h⟩ := h
  refine ⟨b, by omega, fun j a c => ?_, h⟩
  by_cases hj : j = p
  · rw [hj, h2]
  · exact hq j (by omega) c
theorem pz_Fm_q' (h : pz_Fm T p e) (h2 : T p = 2) : pz_Fm T (p + 1) e := by
  obtain ⟨b, h1, hq, h⟩ := h
  have hb : p ≠ b := by
    intro z; subst z; omega
  exact ⟨b, by omega, fun j a c => hq j (by omega) c, h⟩
theorem pz_bsf_eq (hb : T b ≠ 2) : ∀ f j, j ≤ b → b ≤ j + f → (∀ i, j ≤ i → i < b → T i = 2) → pz_bsf T f j = b := by
  intro f
  induction f with
  | zero => intro j h1 h2 _; rw [pz_bsf]; omega
  | succ f ih =>
    intro j h1 h2 h3
    by_cases hj : j = b
    · rw [pz_bsf, hj, if_neg hb]
    · rw [pz_bsf, if_pos (h3 j (Nat.le_refl _) (by omega))]
      exact ih (j + 1) (by omega) (by omega) (fun i a c => h3 i (by omega) c)
theorem pz_bs_eq (hb : T b ≠ 2) (h1 : j ≤ b) (h2 : b < n) (h3 : ∀ i, j ≤ i → i < b → T i = 2) : pz_bs T n j = b :=
  pz_bsf_eq hb _ _ h1 (by omega) h3
theorem pz_bs_s (h : j < n) (h2 : T j = 2) : pz_bs T n j = pz_bs T n (j + 1) := by
  unfold pz_bs
  rw [show n - j = (n - (j + 1)) + 1 by omega, pz_bsf, if_pos h2]
theorem pz_bs_n (h2 : T j ≠ 2) : pz_bs T n j = j := by
  unfold pz_bs
  cases n - j with
  | zero => rfl
  | succ f => rw [pz_bsf, if_neg h2]
theorem pz_sc_eq {k : Nat} : ∀ f i, i < e → e ≤ i + f → pz_dd T e ≤ k → (∀ j, i < j → j < e → k < pz_dd T j) → pz_sc T k f i + 1 = e := by
  intro f
  induction f with
  | zero => intro i h1 h2; omega
  | succ f ih =>
    intro i h1 h2 h3 h4
    by_cases hi : i + 1 = e
    · rw [pz_sc, if_pos (by rw [hi]; exact h3), hi]
    · have := h4 (i + 1) (by omega) (by omega)
      rw [pz_sc, if_neg (by omega)]
      exact ih (i + 1) (by omega) (by omega) h3 (fun j a c => h4 j (by omega) c)
theorem pz_nx_eq (h : pz_Fm T p e) (he : e ≤ n) : pz_nx T n p = e ∧ ∃ b, pz_bs T n p = b ∧ p ≤ b ∧ b < e ∧ (∀ j, p ≤ j → j < b → T j = 2) ∧
    ((3 ≤ T b ∧ e = b + 1) ∨ (T b = 0 ∧ b + 1 < e ∧ T (e - 1) = 1 ∧ pz_dd T e = pz_dd T b ∧ ∀ j, b < j → j < e → pz_dd T b < pz_dd T j)) := by
  obtain ⟨b, h1, hq, h⟩ := h
  have hb2 : T b ≠ 2 := by omega
  have hb : pz_bs T n p = b := pz_bs_eq hb2 h1 (by omega) hq
  refine ⟨?_, b, hb, h1, by omega, hq, h⟩
  unfold pz_nx
  rw [hb]
  rcases h with ⟨ha, h9⟩ | ⟨h0, h2, h3, h4, h5⟩
  · rw [if_neg (by omega), h9]
  · rw [if_pos h0]
    exact pz_sc_eq _ _ h2 (by omega) (by omega) (fun j a c => h5 j (by omega) c)
theorem pz_Fm_ex (hR : pz_Rd T n) (hp : p < n) (h1 : T p ≠ 1) : ∃ e, e ≤ n ∧ pz_Fm T p e := by
  obtain ⟨hok, h0, hm⟩ := hR
  -- the base
  have hb : ∀ d p, n - p = d → p < n → T p ≠ 1 → ∃ b, b < n ∧ p ≤ b ∧ (∀ j, p ≤ j → j < b → T j = 2) ∧ T b ≠ 1 ∧ T b ≠ 2 := by
    intro d
    induction d with
    | zero => intro p h1 h2; omega
    | succ d ih =>
      intro p h1 h2 h3
      by_cases h4 : T p = 2
      · have h5 : p + 1 ≠ n := by
          intro z
          exact hm (z ▸ pz_mk_s.mpr h4)
        have h6 : T (p + 1) ≠ 1 := fun z => (hok (p + 1) (by omega) z).2 (pz_mk_s.mpr h4)
        obtain ⟨b, a1, a2, a3, a4⟩ := ih (p + 1) (by omega) (by omega) h6
        refine ⟨b, a1, by omega, fun j c1 c2 => ?_, a4⟩
        by_cases hj : j = p
        · rw [hj, h4]
        · exact a3 j (by omega) c2
      · exact ⟨p, h2, Nat.le_refl _, fun j c1 c2 => by omega, h3, h4⟩
  obtain ⟨b, a1, a2, a3, a4, a5⟩ := hb _ p rfl hp h1
  by_cases hb0 : T b = 0
  · have hs : ∀ d e, n - e = d → e ≤ n → b < e → (∀ j, b < j → j < e → pz_dd T b < pz_dd T j) → ∃ e', e' ≤ n ∧ b < e' ∧ pz_dd T e' ≤ pz_dd T b ∧ (∀ j, b < j → j < e' → pz_dd T b < pz_dd T j) := by
      intro d
      induction d with
      | zero => intro e c1 c2 c3 c4
                have : e = n := by omega
                exact ⟨e, c2, c3, by rw [this, h0]; omega, c4⟩
      | succ d ih =>
        intro e c1 c2 c3 c4
        by_cases c5 : pz_dd T e ≤ pz_dd T b
        · exact ⟨e, c2, c3, c5, c4⟩
        · refine ih (e + 1) (by omega) (by omega) (by omega) (fun j k1 k2 => ?_)
          by_cases hj : j = e
          · rw [hj]; omega
          · exact c4 j k1 (by omega)
    obtain ⟨e, e1, e2, e3, e4⟩ := hs _ (b + 1) rfl (by omega) (by omega) (fun j k1 k2 => by omega)
    have e5 : e ≠ b + 1 := by
      intro z
      rw [z, pz_dd_o hb0] at e3; omega
    have e6 := e4 (e - 1) (by omega) (by omega)
    obtain ⟨m, hm9⟩ : ∃ m, e = m + 1 := ⟨e - 1, by omega⟩
    subst hm9
    rw [Nat.add_sub_cancel] at e6
    have e7 : T m = 1 := by
      by_cases c0 : T m = 0
      · rw [pz_dd_o c0] at e3; omega
      · by_cases c1 : T m = 1
        · exact c1
        · rw [pz_dd_a c0 c1] at e3; omega
    have e8 := pz_dd_c e7
    exact ⟨m + 1, e1, b, a2, a3, Or.inr ⟨hb0, by omega, by rw [Nat.add_sub_cancel]; exact e7, by omega, e4⟩⟩
  · exact ⟨b + 1, by omega, b, a2, a3, Or.inl ⟨by omega, rfl⟩⟩
theorem pz_nx_ok (hR : pz_Rd T n) (hp : p < n) (h1 : T p ≠ 1) : pz_nx T n p ≤ n ∧ pz_Fm T p (pz_nx T n p) := by
  obtain ⟨e, h2, h3⟩ := pz_Fm_ex hR hp h1
  rw [(pz_nx_eq h3 h2).1]
  exact ⟨h2, h3⟩
theorem pz_nx_q (hp : p < n) (h2 : T p = 2) : pz_nx T n p = pz_nx T n (p + 1) := by
  unfold pz_nx
  rw [pz_bs_s hp h2]
-- weights
theorem pz_W_mono : i ≤ j → pz_W T i ≤ pz_W T j := by
  intro h
  induction j with
  | zero => have : i = 0 := by omega
            rw [this]; exact Nat.le_refl _
  | succ j ih =>
    by_cases hi : i = j + 1
    · rw [hi]; exact Nat.le_refl _
    · have := ih (by omega)
      rw [pz_W]; omega
theorem pz_w_le (t : Nat) : pz_w t ≤ 2 := by
  unfold pz_w
  split <;> (try split) <;> omega
theorem pz_W_le : pz_W T i ≤ 2 * i := by
  induction i with
  | zero => exact Nat.le_refl _
  | succ i ih => have := pz_w_le (T i); rw [pz_W]; omega
theorem pz_P_mono : i ≤ j → pz_P T i ≤ pz_P T j := by
  intro h
  induction j with
  | zero => have : i = 0 := by omega
            rw [this]; exact Nat.le_refl _
  | succ j ih =>
    by_cases hi : i = j + 1
    · rw [hi]; exact Nat.le_refl _
    · have := ih (by omega)
      rw [pz_P]; omega
theorem pz_qn_ge (hq : ∀ j, p ≤ j → j < b → T j = 2) : p ≤ b → b - p ≤ pz_qn T b := by
  intro h
  induction b with
  | zero => omega
  | succ b ih =>
    by_cases hb : p = b + 1
    · omega
    · rw [pz_qn, if_pos (hq b (by omega) (by omega))]
      have := ih (fun j a c => hq j a (by omega)) (by omega)
      omega
theorem pz_qn_eq (hq : ∀ j, p ≤ j → j < b → T j = 2) (hm : ¬ pz_mk T p) : p ≤ b → pz_qn T b = b - p := by
  intro h
  induction b with
  | zero => rw [pz_qn]; omega
  | succ b ih =>
    by_cases hb : p = b + 1
    · subst hb
      rw [pz_qn, if_neg (fun z => hm (pz_mk_s.mpr z))]; omega
    · rw [pz_qn, if_pos (hq b (by omega) (by omega)), ih (fun j a c => hq j a (by omega)) (by omega)]
      omega
theorem pz_mo_eq {k o : Nat} : ∀ t, o < t → pz_dd T o ≤ k → (∀ j, o < j → j < t → k < pz_dd T j) → pz_mo T k t = o := by
  intro t
  induction t with
  | zero => intro h; omega
  | succ t ih =>
    intro h1 h2 h3
    by_cases ht : o = t
    · rw [pz_mo, if_pos (by rw [← ht]; exact h2), ht]
    · have := h3 t (by omega) (by omega)
      rw [pz_mo, if_neg (by omega)]
      exact ih (by omega) h2 (fun j a c => h3 j a (by omega))
/-- the base of the form that ends with the token t -/
theorem pz_cb_eq (hb : (3 ≤ T b ∧ e = b + 1) ∨ (T b = 0 ∧ b + 1 < e ∧ T (e - 1) = 1 ∧ pz_dd T e = pz_dd T b ∧ ∀ j, b < j → j < e → pz_dd T b < pz_dd T j)) : pz_cb T (e - 1) = b := by
  unfold pz_cb
  rcases hb with ⟨ha, rfl⟩ | ⟨h0, h2, h3, h4, h5⟩
  · rw [Nat.add_sub_cancel, if_neg (by omega)]
  · rw [if_pos h3, show e - 1 + 1 = e by omega]
    exact pz_mo_eq _ (by omega) (by omega) (fun j a c => by rw [h4]; exact h5 j a (by omega))
theorem pz_P_s (hb : (3 ≤ T b ∧ e = b + 1) ∨ (T b = 0 ∧ b + 1 < e ∧ T (e - 1) = 1 ∧ pz_dd T e = pz_dd T b ∧ ∀ j, b < j → j < e → pz_dd T b < pz_dd T j)) : pz_P T e = pz_P T (e - 1) + (1 + 2 * pz_qn T b) := by
  have hc := pz_cb_eq hb
  obtain ⟨m, rfl⟩ : ∃ m, e = m + 1 := ⟨e - 1, by omega⟩
  rw [Nat.add_sub_cancel] at hc ⊢
  have h : ¬ (T m = 0 ∨ T m = 2) := by
    rcases hb with ⟨ha, h⟩ | ⟨h0, h2, h3, h4, h5⟩
    · have : m = b := by omega
      subst this; omega
    · rw [Nat.add_sub_cancel] at h3; omega
  rw [pz_P, if_neg h, hc]
-- which places are code
theorem pz_in_s {o : Nat} (h0 : T p = 0) : pz_in T o (p + 1) ↔ o = p ∨ pz_in T o p := by
  have hd := pz_dd_o h0
  constructor
  · intro ⟨a, c, d⟩
    by_cases h : o = p
    · exact Or.inl h
    · exact Or.inr ⟨a, by omega, fun j k1 k2 => d j k1 (by omega)⟩
  · intro h
    rcases h with rfl | ⟨a, c, d⟩
    · refine ⟨h0, by omega, fun j k1 k2 => ?_⟩
      have : j = o + 1 := by omega
      rw [this]; omega
    · refine ⟨a, by omega, fun j k1 k2 => ?_⟩
      by_cases hj : j = p + 1
      · have := d p c (Nat.le_refl _)
        rw [hj]; omega
      · exact d j k1 (by omega)
theorem pz_in_e {o : Nat} (h : pz_Fm T p e) : pz_in T o e ↔ pz_in T o p := by
  have h1 := pz_Fm_lt h
  have h2 := pz_Fm_dd h
  have h3 := pz_Fm_ge h
  constructor
  · intro ⟨a, c, d⟩
    have he := d e c (Nat.le_refl _)
    have hp : o < p := by
      by_cases z : o < p
      · exact z
      · have := h3 o (by omega) (by omega)
        omega
    exact ⟨a, hp, fun j k1 k2 => d j k1 (by omega)⟩
  · intro ⟨a, c, d⟩
    refine ⟨a, by omega, fun j k1 k2 => ?_⟩
    by_cases hj : j ≤ p
    · exact d j k1 hj
    · have := h3 j (by omega) k2
      have := d p c (Nat.le_refl _)
      omega
theorem pz_CL_e (h : pz_Fm T p e) : pz_CL T e ↔ pz_CL T p :=
  ⟨fun c o ho => c o ((pz_in_e h).mpr ho), fun c o ho => c o ((pz_in_e h).mp ho)⟩
theorem pz_QC_e (h : pz_Fm T p e) : pz_QC T e ↔ pz_QC T p := by
  have h2 := pz_Fm_dd h
  constructor
  · intro ⟨o, a, c, d⟩
    exact ⟨o, (pz_in_e h).mp a, by omega, d⟩
  · intro ⟨o, a, c, d⟩
    exact ⟨o, (pz_in_e h).mpr a, by omega, d⟩
theorem pz_D0_e (h : pz_Fm T p e) (hd : pz_D0 T p) : pz_D0 T e :=
  ⟨fun z => hd.1 ((pz_CL_e h).mp z), fun z => hd.2 ((pz_QC_e h).mp z)⟩
theorem pz_CL_o (h0 : T p = 0) (hc : pz_CF T p) (h40 : T (p + 1) ≠ 40) : pz_CL T (p + 1) := by
  intro o ho
  rcases (pz_in_s h0).mp ho with rfl | ho
  · exact fun z => z.elim hc.1 h40
  · exact hc.2 o ho
theorem pz_QC_o (h0 : T p = 0) (hc : pz_CF T p) (h40 : T (p + 1) = 40) : pz_QC T (p + 1) :=
  ⟨p, (pz_in_s h0).mpr (Or.inl rfl), (pz_dd_o h0).symm, h40, hc⟩
theorem pz_QC_nCL (h : pz_QC T p) : ¬ pz_CL T p := by
  obtain ⟨o, a, _, c, _⟩ := h
  exact fun z => z o a (Or.inr c)
theorem pz_D0_o (h0 : T p = 0) (hc : ¬ pz_CF T p) : pz_D0 T (p + 1) := by
  constructor
  · intro z
    refine hc ⟨fun m => z p ((pz_in_s h0).mpr (Or.inl rfl)) (Or.inl m), fun o ho => z o ((pz_in_s h0).mpr (Or.inr ho))⟩
  · intro ⟨o, a, c, d, f⟩
    have hd := pz_dd_o h0
    rcases (pz_in_s h0).mp a with rfl | ho
    · exact hc f
    · have := ho.2.2 p ho.2.1 (Nat.le_refl _)
      omega
theorem pz_CL_0 : pz_CL T 0 := fun o ho => absurd ho.2.1 (by omega)
end
end
section
/-! addresses of the pairs that reading makes: X's by weights from the right, Y's by the ends of forms -/
def pz_AX (T : Nat → Nat) (n : Nat) : Nat → Nat → Nat
  | 0, j => pz_W T n - pz_W T (pz_bs T n j + 1)
  | 1, j => pz_W T n - pz_W T (j + 1) + 1
  | _, j => pz_W T n - pz_W T (j + 1)
def pz_AY (T : Nat → Nat) (n : Nat) : Nat → Nat → Nat
  | 0, j => pz_P T (pz_nx T n j) - 1
  | 1, j => pz_P T (pz_nx T n j - 1) + 2 * (pz_bs T n j - 1 - j) + 1
  | _, j => pz_P T (pz_nx T n j - 1) + 2 * (pz_bs T n j - 1 - j)
def pz_Nd (T : Nat → Nat) (n r j : Nat) : Prop := j < n ∧ ((r = 0 ∧ T j ≠ 1 ∧ ¬ pz_mk T j) ∨ ((r = 1 ∨ r = 2) ∧ T j = 2))
def pz_lst (T : Nat → Nat) (n : Nat) (A : Nat → Nat → Nat) (pr : Nat → Int64) (E : Int64) (p : Nat) : Int64 := if p < n ∧ T p ≠ 1 then pr (A 0 p) else E
def pz_val (T : Nat → Nat) (n : Nat) (A : Nat → Nat → Nat) (pr : Nat → Int64) (E : Int64) (am : Nat → Int64) (j : Nat) : Int64 :=
  if T j = 0 then pz_lst T n A pr E (j + 1) else if T j = 2 then pr (A 1 j) else am (T j)
/-- data nodes -/
def pz_Dn (T : Nat → Nat) (n r j : Nat) : Prop := pz_Nd T n r j ∧ (r = 0 → pz_D0 T j) ∧ (r ≠ 0 → ¬ pz_CF T j)

section
variable {T : Nat → Nat} {n r j r' j' b : Nat}
theorem pz_run_eq (h : ∀ i, j ≤ i → i < b → T i = 2) (h' : ∀ i, j' ≤ i → i < b → T i = 2) (hj : j ≤ b) (hj' : j' ≤ b) (hm : ¬ pz_mk T j) (hm' : ¬ pz_mk T j') : j = j' := by
  by_cases h1 : j < j'
  · exact absurd ⟨by omega, h (j' - 1) (by omega) (by omega)⟩ hm'
  · by_cases h2 : j' < j
    · exact absurd ⟨by omega, h' (j - 1) (by omega) (by omega)⟩ hm
    · omega
theorem pz_AX_r (hR : pz_Rd T n) (h : pz_Nd T n r j) : ∃ τ, τ < n ∧ j ≤ τ ∧ pz_AX T n r j + pz_W T (τ + 1) = pz_W T n + (if r = 1 then 1 else 0) ∧ pz_W T (τ + 1) = pz_W T τ + (if r = 0 then 1 else 2) ∧
    (∀ i, j ≤ i → i < τ → T i = 2) ∧ (r = 0 → T τ ≠ 2) ∧ (r ≠ 0 → τ = j ∧ T τ = 2) := by
  obtain ⟨hj, h⟩ := h
  rcases h with ⟨rfl, h1, h2⟩ | ⟨h1, h2⟩
  · obtain ⟨e, he, hF⟩ := pz_Fm_ex hR hj h1
    obtain ⟨_, b, hb, a1, a2, a3, a4⟩ := pz_nx_eq hF he
    have hm : pz_W T (b + 1) ≤ pz_W T n := pz_W_mono (by omega)
    have hw : pz_w (T b) = 1 := by
      unfold pz_w
      rw [if_neg (by omega), if_neg (by omega)]
    refine ⟨b, by omega, a1, ?_, ?_, a3, fun _ => by omega, fun z => absurd rfl z⟩
    · simp only [pz_AX, hb]
      rw [if_neg (by omega)]; omega
    · rw [pz_W, hw]; simp
  · have hm : pz_W T (j + 1) ≤ pz_W T n := pz_W_mono (by omega)
    have hw : pz_w (T j) = 2 := by
      unfold pz_w
      rw [if_neg (by omega), if_pos h2]
    refine ⟨j, hj, Nat.le_refl _, ?_, ?_, fun i a c => by omega, fun z => by omega, fun _ => ⟨rfl, h2⟩⟩
    · rcases h1 with rfl | rfl
      · show pz_W T n - pz_W T (j + 1) + 1 + pz_W T (j + 1) = pz_W T n + 1
        omega
      · show pz_W T n - pz_W T (j + 1) + pz_W T (j + 1) = pz_W T n + 0
        omega
    · rw [pz_W, hw, if_neg (by omega)]
theorem pz_AX_lt (hR : pz_Rd T n) (h : pz_Nd T n r j) : pz_AX T n r j < pz_W T n := by
  obtain ⟨τ, h1, _, h2, h3, _⟩ := pz_AX_r hR h
  by_cases z : r = 1
  · rw [if_pos z] at h2
    rw [if_neg (by omega)] at h3; omega
  · rw [if_neg z] at h2
    by_cases z0 : r = 0
    · rw [if_pos z0] at h3; omega
    · rw [if_neg z0] at h3; omega
theorem pz_AX_inj (hR : pz_Rd T n) (h : pz_Nd T n r j) (h' : pz_Nd T n r' j') (he : pz_AX T n r j = pz_AX T n r' j') : r = r' ∧ j = j' := by
  obtain ⟨τ, h1, h2, h3, h4, h5, h6, h7⟩ := pz_AX_r hR h
  obtain ⟨τ', k1, k2, k3, k4, k5, k6, k7⟩ := pz_AX_r hR h'
  have hr : r ≤ 2 := by obtain ⟨_, h | h⟩ := h <;> omega
  have hr' : r' ≤ 2 := by obtain ⟨_, h | h⟩ := h' <;> omega
  have key : τ = τ' := by
    by_cases c1 : τ < τ'
    · have := pz_W_mono (T := T) (show τ + 1 ≤ τ' by omega)
      exfalso
      split at h3 <;> split at h4 <;> split at k3 <;> split at k4 <;> omega
    · by_cases c2 : τ' < τ
      · have := pz_W_mono (T := T) (show τ' + 1 ≤ τ by omega)
        exfalso
        split at h3 <;> split at h4 <;> split at k3 <;> split at k4 <;> omega
      · omega
  subst key
  by_cases z : r = 0
  · by_cases z' : r' = 0
    · refine ⟨by omega, ?_⟩
      have m1 : ¬ pz_mk T j := by obtain ⟨_, h | h⟩ := h <;> first | exact h.2.2 | omega
      have m2 : ¬ pz_mk T j' := by obtain ⟨_, h | h⟩ := h' <;> first | exact h.2.2 | omega
      exact pz_run_eq h5 k5 h2 k2 m1 m2
    · exact absurd (k7 z').2 (h6 z)
  · by_cases z' : r' = 0
    · exact absurd (h7 z).2 (k6 z')
    · have a1 := (h7 z).1
      have a2 := (k7 z').1
      refine ⟨?_, by omega⟩
      split at h3 <;> split at k3 <;> omega
theorem pz_AY_r (hR : pz_Rd T n) (h : pz_Nd T n r j) : ∃ e b o, e ≤ n ∧ j ≤ b ∧ b < e ∧ pz_cb T (e - 1) = b ∧ pz_P T e = pz_P T (e - 1) + (1 + 2 * pz_qn T b) ∧ (∀ i, j ≤ i → i < b → T i = 2) ∧ b - j ≤ pz_qn T b ∧ pz_AY T n r j = pz_P T (e - 1) + o ∧
    ((r = 0 ∧ o = 2 * pz_qn T b) ∨ (r = 1 ∧ j < b ∧ o = 2 * (b - 1 - j) + 1) ∨ (r = 2 ∧ j < b ∧ o = 2 * (b - 1 - j))) := by
  obtain ⟨hj, h⟩ := h
  have h1 : T j ≠ 1 := by omega
  obtain ⟨e, he, hF⟩ := pz_Fm_ex hR hj h1
  obtain ⟨hn, b, hb, a1, a2, a3, a4⟩ := pz_nx_eq hF he
  have hc := pz_cb_eq a4
  have hP := pz_P_s a4
  have hq := pz_qn_ge a3 a1
  rcases h with ⟨rfl, _, h2⟩ | ⟨h1 | h1, h2⟩
  · exact ⟨e, b, _, he, a1, a2, hc, hP, a3, hq, by simp only [pz_AY, hn]; omega, Or.inl ⟨rfl, rfl⟩⟩
  · have hjb : j < b := by
      by_cases z : j = b
      · subst z; omega
      · omega
    subst h1
    exact ⟨e, b, _, he, a1, a2, hc, hP, a3, hq, by simp only [pz_AY, hn, hb]; rw [Nat.add_assoc], Or.inr (Or.inl ⟨rfl, hjb, rfl⟩)⟩
  · have hjb : j < b := by
      by_cases z : j = b
      · subst z; omega
      · omega
    subst h1
    exact ⟨e, b, _, he, a1, a2, hc, hP, a3, hq, by simp only [pz_AY, hn, hb], Or.inr (Or.inr ⟨rfl, hjb, rfl⟩)⟩
theorem pz_AY_lt (hR : pz_Rd T n) (h : pz_Nd T n r j) : pz_AY T n r j < pz_P T n := by
  obtain ⟨e, b, o, h1, h2, h3, h4, h5, h6, h7, h8, h9⟩ := pz_AY_r hR h
  have := pz_P_mono (T := T) h1
  omega
theorem pz_AY_inj (hR : pz_Rd T n) (h : pz_Nd T n r j) (h' : pz_Nd T n r' j') (he : pz_AY T n r j = pz_AY T n r' j') : r = r' ∧ j = j' := by
  obtain ⟨e, b, o, h1, h2, h3, h4, h5, h6, h7, h8, h9⟩ := pz_AY_r hR h
  obtain ⟨e', b', o', k1, k2, k3, k4, k5, k6, k7, k8, k9⟩ := pz_AY_r hR h'
  have key : e = e' := by
    by_cases c1 : e < e'
    · have := pz_P_mono (T := T) (show e ≤ e' - 1 by omega)
      omega
    · by_cases c2 : e' < e
      · have := pz_P_mono (T := T) (show e' ≤ e - 1 by omega)
        omega
      · omega
  subst key
  have hb : b = b' := by rw [← h4, ← k4]
  subst hb
  by_cases z : r = 0
  · by_cases z' : r' = 0
    · refine ⟨by omega, ?_⟩
      have m1 : ¬ pz_mk T j := by obtain ⟨_, h | h⟩ := h <;> first | exact h.2.2 | omega
      have m2 : ¬ pz_mk T j' := by obtain ⟨_, h | h⟩ := h' <;> first | exact h.2.2 | omega
      exact pz_run_eq h6 k6 h2 k2 m1 m2
    · omega
  · omega
theorem pz_mo_le {k : Nat} : ∀ t, pz_mo T k t ≤ t := by
  intro t
  induction t with
  | zero => exact Nat.le_refl _
  | succ t ih => rw [pz_mo]; split <;> omega
theorem pz_cb_le {t : Nat} : pz_cb T t ≤ t := by
  unfold pz_cb
  split
  · exact pz_mo_le t
  · exact Nat.le_refl _
theorem pz_qn_le : pz_qn T b ≤ b := by
  induction b with
  | zero => exact Nat.le_refl _
  | succ b ih => rw [pz_qn]; split <;> omega
theorem pz_P_le : ∀ t, t ≤ 70 → pz_P T t ≤ 141 * t := by
  intro t
  induction t with
  | zero => intro _; exact Nat.le_refl _
  | succ t ih =>
    intro h
    have a := ih (by omega)
    have b := pz_cb_le (T := T) (t := t)
    have c := pz_qn_le (T := T) (b := pz_cb T t)
    rw [pz_P]
    split <;> omega
end
end
section
/-! values as a tag and a low part; lists as chains of rests; a chain that ends is no longer than there are pairs -/
def zv_c (t k : Nat) : Int64 := lN (t * 4294967296 + k)
def ch_N (R : Nat → Int64) (pt : Nat → Int64) (E : Int64) (B : Nat) : Nat → Int64 → Prop
  | 0, v => v = E
  | k + 1, v => ∃ c, c < B ∧ v = pt c ∧ ch_N R pt E B k (R c)
theorem ch_ph : ∀ (B k : Nat) (f : Nat → Nat), (∀ i, i < k → f i < B) → (∀ i j, i < k → j < k → f i = f j → i = j) → k ≤ B := by
  intro B
  induction B with
  | zero =>
    intro k f h _
    by_cases z : k = 0
    · omega
    · have := h 0 (by omega); omega
  | succ B ih =>
    intro k f h hi
    by_cases hx : ∃ i, i < k ∧ f i = B
    · obtain ⟨i0, a, c⟩ := hx
      have := ih (k - 1) (fun i => if i < i0 then f i else f (i + 1)) (fun i hl => by
        split
        · have h1 := h i (by omega)
          have h2 : f i ≠ B := fun z => by
            have := hi i i0 (by omega) a (by omega); omega
          omega
        · have h1 := h (i + 1) (by omega)
          have h2 : f (i + 1) ≠ B := fun z => by
            have := hi (i + 1) i0 (by omega) a (by omega); omega
          omega) (fun i j hl hl' he => by
        split at he
        · split at he
          · exact hi i j (by omega) (by omega) he
          · have := hi i (j + 1) (by omega) (by omega) he; omega
        · split at he
          · have := hi (i + 1) j (by omega) (by omega) he; omega
          · have := hi (i + 1) (j + 1) (by omega) (by omega) he; omega)
      omega
    · have := ih k f (fun i hl => by
        have h1 := h i hl
        have h2 : f i ≠ B := fun z => hx ⟨i, hl, z⟩
        omega) hi
      omega
section
variable {R : Nat → Int64} {pt : Nat → Int64} {E : Int64} {B : Nat}
theorem ch_uniq (hE : ∀ c, c < B → pt c ≠ E) (hp : ∀ c d, c < B → d < B → pt c = pt d → c = d) :
    ∀ k m v, ch_N R pt E B k v → ch_N R pt E B m v → k = m := by
  intro k
  induction k with
  | zero =>
    intro m v h1 h2
    cases m with
    | zero => rfl
    | succ m =>
      obtain ⟨c, hB, hc, _⟩ := h2
      exact absurd (hc.symm.trans h1) (hE c hB)
  | succ k ih =>
    intro m v h1 h2
    cases m with
    | zero =>
      obtain ⟨c, hB, hc, _⟩ := h1
      exact absurd (hc.symm.trans h2) (hE c hB)
    | succ m =>
      obtain ⟨c, hB, hc, g1⟩ := h1
      obtain ⟨d, hD, hd, g2⟩ := h2
      have e := hp c d hB hD (hc.symm.trans hd)
      subst e
      rw [ih m _ g1 g2]
/-- the cells of a chain, by what is left of it -/
theorem ch_cells : ∀ k v, ch_N R pt E B k v → ∃ f : Nat → Nat, ∀ i, i < k → f i < B ∧ ch_N R pt E B (i + 1) (pt (f i)) := by
  intro k
  induction k with
  | zero => intro v _; exact ⟨fun _ => 0, fun i hi => by omega⟩
  | succ k ih =>
    intro v h
    obtain ⟨c, hB, hc, g⟩ := id h
    obtain ⟨f, hf⟩ := ih _ g
    refine ⟨fun i => if i = k then c else f i, fun i hi => ?_⟩
    dsimp only
    split
    · rename_i z
      subst z
      rw [← hc]
      exact ⟨hB, h⟩
    · exact hf i (by omega)
theorem ch_len (hE : ∀ c, c < B → pt c ≠ E) (hp : ∀ c d, c < B → d < B → pt c = pt d → c = d) {k : Nat} {v : Int64} (h : ch_N R pt E B k v) : k ≤ B := by
  obtain ⟨f, hf⟩ := ch_cells k v h
  refine ch_ph B k f (fun i hi => (hf i hi).1) (fun i j hi hj he => ?_)
  have h1 := (hf i hi).2
  have h2 := (hf j hj).2
  rw [he] at h1
  have := ch_uniq hE hp _ _ _ h1 h2
  omega
theorem ch_mono {B' : Nat} (h : B ≤ B') : ∀ k v, ch_N R pt E B k v → ch_N R pt E B' k v := by
  intro k
  induction k with
  | zero => intro v h; exact h
  | succ k ih =>
    intro v h1
    obtain ⟨c, hB, hc, g⟩ := h1
    exact ⟨c, by omega, hc, ih _ g⟩
end
end
section
/-! longs that hold a tag above 32 bits: how they are made, read, compared -/
theorem zv_nI (t k : Nat) : nI (t * 4294967296 + k) = nI k := by
  apply Int32.toBitVec_inj.mp
  show BitVec.ofNat 32 _ = BitVec.ofNat 32 _
  apply BitVec.eq_of_toNat_eq
  rw [BitVec.toNat_ofNat, BitVec.toNat_ofNat]
  omega
theorem zv_lo (t k : Nat) : (zv_c t k).toInt32 = nI k := by
  unfold zv_c
  rw [lN_i, zv_nI]
theorem zv_sx {k : Nat} (hk : k < 4294967296) : (nI k).toInt64 &&& 4294967295 = lN k := by
  apply wb_inj
  rw [Int64.toBitVec_and, wb_tb]
  apply BitVec.eq_of_toNat_eq
  rw [BitVec.toNat_and, Int32.toBitVec_toInt64, BitVec.toNat_signExtend, BitVec.toNat_ofNat]
  rw [show (4294967295 : Int64).toBitVec.toNat = 2 ^ 32 - 1 from by decide, Nat.and_two_pow_sub_one_eq_mod, BitVec.toNat_setWidth, pk_tn (by omega)]
  split <;> omega
theorem zv_mk {t k : Nat} (ht : t < 16) (hk : k < 4294967296) {a : Int64} {b : Int32} (ha : a = lN t) (hb : b = nI k) : (a <<< ((32 : Int32).toInt64 &&& 63)) ||| (b.toInt64 &&& 4294967295) = zv_c t k := by
  subst ha hb
  rw [zv_sx hk, show (32 : Int32) = nI 32 from rfl, wb_shl t (by decide), wb_or (by omega) (by omega)]
  unfold zv_c
  have h := Nat.shiftLeft_add_eq_or_of_lt (show k < 2 ^ 32 by omega) t
  rw [Nat.shiftLeft_eq] at h
  rw [← h]
theorem zv_sh {t k : Nat} (ht : t < 16) (hk : k < 4294967296) : zv_c t k >>> ((32 : Int32).toInt64 &&& 63) = lN t := by
  unfold zv_c
  apply Int64.toInt_inj.mp
  have h : ∀ (a s : Int64), (s.toBitVec.smod 64).toNat = 32 → (a >>> s).toInt = a.toInt >>> 32 := by
    intro a s hs
    show (a.toBitVec.sshiftRight (s.toBitVec.smod 64).toNat).toInt = _
    rw [hs, BitVec.toInt_sshiftRight]
    rfl
  rw [h _ _ (by decide), pk_lT (by omega), pk_lT (by omega), Int.shiftRight_eq_div_pow]
  omega
theorem zv_tg {t k : Nat} (ht : t < 16) (hk : k < 4294967296) : (zv_c t k >>> ((32 : Int32).toInt64 &&& 63)).toInt32 = nI t := by
  rw [zv_sh ht hk, lN_i]
theorem zv_eq {t k t' k' : Nat} (ht : t < 16) (hk : k < 4294967296) (ht' : t' < 16) (hk' : k' < 4294967296) : zv_c t k = zv_c t' k' ↔ t = t' ∧ k = k' := by
  unfold zv_c
  rw [pk_lEQ (by omega) (by omega)]
  omega
theorem zv_le {t k t' k' : Nat} (ht : t < 16) (hk : k < 4294967296) (ht' : t' < 16) (hk' : k' < 4294967296) : zv_c t k ≤ zv_c t' k' ↔ t < t' ∨ (t = t' ∧ k ≤ k') := by
  unfold zv_c
  rw [pk_lLE (by omega) (by omega)]
  omega
theorem zv_lt {t k t' k' : Nat} (ht : t < 16) (hk : k < 4294967296) (ht' : t' < 16) (hk' : k' < 4294967296) : zv_c t k < zv_c t' k' ↔ t < t' ∨ (t = t' ∧ k < k') := by
  unfold zv_c
  rw [pk_lLT (by omega) (by omega)]
  omega
theorem zv_ne {t k : Nat} (ht : t < 16) (hk : k < 4294967296) : zv_c t k ≠ -1 := by
  intro h
  have h1 : (zv_c t k).toInt = ((t * 4294967296 + k : Nat) : Int) := pk_lT (by omega)
  rw [h] at h1
  have h2 : (-1 : Int64).toInt = -1 := by decide
  rw [h2] at h1
  omega
end
section
/-! when a value of Y and a value of X are one; the text's pairs on both sides; code and data -/
def zv_K (M : Nat → Nat → Prop) (np nc t k s l : Nat) : Prop :=
  (t = 0 ∧ s = 0 ∧ l = k) ∨ (t = 1 ∧ s = 4 ∧ l = k ∧ k < 2) ∨ (t = 2 ∧ s = 3 ∧ k = 0 ∧ l = 0) ∨ (t = 3 ∧ s = 2 ∧ M k l) ∨
  (t = 4 ∧ s = 1 ∧ l = k ∧ ((30 ≤ k ∧ k ≤ 45) ∨ (50 ≤ k ∧ k ≤ 64))) ∨ (t = 5 ∧ s = 5 ∧ l = k ∧ k < np) ∨
  (t = 6 ∧ s = 6 ∧ l = k ∧ 50 ≤ k ∧ k ≤ 64) ∨ (t = 7 ∧ s = 7 ∧ l = k ∧ k < nc) ∨ (t = 8 ∧ s = 8 ∧ k = 0 ∧ l = 0)
def zv_V (M : Nat → Nat → Prop) (np nc : Nat) (y x : Int64) : Prop :=
  ∃ t k s l, k < 4294967296 ∧ l < 4294967296 ∧ y = zv_c t k ∧ x = zv_c s l ∧ zv_K M np nc t k s l
def zv_tk (t : Nat) : Prop := t ≤ 4 ∨ (10 ≤ t ∧ t ≤ 45) ∨ (50 ≤ t ∧ t ≤ 64)
def zv_yA (t : Nat) : Int64 := if t < 10 then zv_c 1 (if t = 3 then 1 else 0) else if t < 30 then zv_c 0 (t - 10) else zv_c 4 t
def zv_xA (t : Nat) : Int64 := if t < 10 then zv_c 4 (if t = 3 then 1 else 0) else if t < 30 then zv_c 0 (t - 10) else zv_c 1 t
def cd_yl (T : Nat → Nat) (n p : Nat) : Int64 := pz_lst T n (pz_AY T n) (zv_c 3) (zv_c 2 0) p
def cd_yv (T : Nat → Nat) (n j : Nat) : Int64 := pz_val T n (pz_AY T n) (zv_c 3) (zv_c 2 0) zv_yA j
def cd_xl (T : Nat → Nat) (n p : Nat) : Int64 := pz_lst T n (pz_AX T n) (zv_c 2) (zv_c 3 0) p
def cd_xv (T : Nat → Nat) (n j : Nat) : Int64 := pz_val T n (pz_AX T n) (zv_c 2) (zv_c 3 0) zv_xA j
/-- one side's pairs of the text -/
def cd_De (T : Nat → Nat) (n : Nat) (A : Nat → Nat → Nat) (pr : Nat → Int64) (E : Int64) (am : Nat → Int64) (F R : Nat → Int64) : Prop :=
  (∀ p, p < n → T p ≠ 1 → ¬ pz_mk T p → F (A 0 p) = pz_val T n A pr E am p ∧ R (A 0 p) = pz_lst T n A pr E (pz_nx T n p)) ∧
  (∀ j, j < n → T j = 2 → F (A 1 j) = am 40 ∧ R (A 1 j) = pr (A 2 j) ∧ F (A 2 j) = pz_val T n A pr E am (j + 1) ∧ R (A 2 j) = E)
/-- the pairs that are code, on both sides, as they were read -/
def cd_OK (T : Nat → Nat) (n : Nat) (FY RY FX RX : Nat → Int64) : Prop :=
  (∀ p, p < n → T p ≠ 1 → ¬ pz_mk T p → ¬ pz_D0 T p → FY (pz_AY T n 0 p) = cd_yv T n p ∧ RY (pz_AY T n 0 p) = cd_yl T n (pz_nx T n p) ∧ FX (pz_AX T n 0 p) = cd_xv T n p ∧ RX (pz_AX T n 0 p) = cd_xl T n (pz_nx T n p)) ∧
  (∀ j, j < n → T j = 2 → pz_CF T j → (FY (pz_AY T n 1 j) = zv_c 4 40 ∧ RY (pz_AY T n 1 j) = zv_c 3 (pz_AY T n 2 j) ∧ FY (pz_AY T n 2 j) = cd_yv T n (j + 1) ∧ RY (pz_AY T n 2 j) = zv_c 2 0) ∧
    FX (pz_AX T n 1 j) = zv_c 1 40 ∧ RX (pz_AX T n 1 j) = zv_c 2 (pz_AX T n 2 j) ∧ FX (pz_AX T n 2 j) = cd_xv T n (j + 1) ∧ RX (pz_AX T n 2 j) = zv_c 3 0)
/-- the pairs that are data, and that the code's are others -/
def hp_OK (T : Nat → Nat) (n : Nat) (M : Nat → Nat → Prop) (np nc py px : Nat) (FY RY FX RX : Nat → Int64) : Prop :=
  (∀ p q, M p q → p < py ∧ q < px) ∧ (∀ p q q', M p q → M p q' → q = q') ∧ (∀ p p' q, M p q → M p' q → p = p') ∧
  (∀ p q, M p q → zv_V M np nc (FY p) (FX q) ∧ zv_V M np nc (RY p) (RX q)) ∧
  (∀ r j, pz_Nd T n r j → ¬ pz_Dn T n r j → (∀ q, ¬ M (pz_AY T n r j) q) ∧ (∀ p, ¬ M p (pz_AX T n r j))) ∧
  (∀ r j, pz_Nd T n r j → pz_AY T n r j < py ∧ pz_AX T n r j < px)

section
variable {M M' : Nat → Nat → Prop} {np nc np' nc' : Nat} {y x y' x' : Int64}
theorem zv_V_mono (hM : ∀ p q, M p q → M' p q) (h1 : np ≤ np') (h2 : nc ≤ nc') (h : zv_V M np nc y x) : zv_V M' np' nc' y x := by
  obtain ⟨t, k, s, l, a, b, c, d, h⟩ := h
  refine ⟨t, k, s, l, a, b, c, d, ?_⟩
  rcases h with h | h | h | h | h | h | h | h | h
  · exact Or.inl h
  · exact Or.inr (Or.inl h)
  · exact Or.inr (Or.inr (Or.inl h))
  · exact Or.inr (Or.inr (Or.inr (Or.inl ⟨h.1, h.2.1, hM _ _ h.2.2⟩)))
  · exact Or.inr (Or.inr (Or.inr (Or.inr (Or.inl h))))
  · exact Or.inr (Or.inr (Or.inr (Or.inr (Or.inr (Or.inl ⟨h.1, h.2.1, h.2.2.1, by omega⟩)))))
  · exact Or.inr (Or.inr (Or.inr (Or.inr (Or.inr (Or.inr (Or.inl h))))))
  · exact Or.inr (Or.inr (Or.inr (Or.inr (Or.inr (Or.inr (Or.inr (Or.inl ⟨h.1, h.2.1, h.2.2.1, by omega⟩)))))))
  · exact Or.inr (Or.inr (Or.inr (Or.inr (Or.inr (Or.inr (Or.inr (Or.inr h)))))))
theorem zv_K_b {t k s l : Nat} (h : zv_K M np nc t k s l) : t < 9 ∧ s < 9 := by
  rcases h with h | h | h | h | h | h | h | h | h <;> omega
theorem zv_K_p {t k s l : Nat} (h : zv_K M np nc t k s l) : (t = 3 ↔ s = 2) ∧ (t = 3 → M k l) ∧ (t = 2 ↔ s = 3) ∧ (t = 0 ↔ s = 0) ∧ (t = 2 → k = 0 ∧ l = 0) ∧ (t = 1 ↔ s = 4) ∧ (t = 4 ↔ s = 1) ∧ (t ≠ 3 → l = k) := by
  rcases h with h | h | h | h | h | h | h | h | h
  · exact ⟨by omega, fun z => by omega, by omega, by omega, fun z => by omega, by omega, by omega, fun z => by omega⟩
  · exact ⟨by omega, fun z => by omega, by omega, by omega, fun z => by omega, by omega, by omega, fun z => by omega⟩
  · exact ⟨by omega, fun z => by omega, by omega, by omega, fun z => by omega, by omega, by omega, fun z => by omega⟩
  · exact ⟨by omega, fun z => h.2.2, by omega, by omega, fun z => by omega, by omega, by omega, fun z => by omega⟩
  · exact ⟨by omega, fun z => by omega, by omega, by omega, fun z => by omega, by omega, by omega, fun z => by omega⟩
  · exact ⟨by omega, fun z => by omega, by omega, by omega, fun z => by omega, by omega, by omega, fun z => by omega⟩
  · exact ⟨by omega, fun z => by omega, by omega, by omega, fun z => by omega, by omega, by omega, fun z => by omega⟩
  · exact ⟨by omega, fun z => by omega, by omega, by omega, fun z => by omega, by omega, by omega, fun z => by omega⟩
  · exact ⟨by omega, fun z => by omega, by omega, by omega, fun z => by omega, by omega, by omega, fun z => by omega⟩
theorem zv_K_ts {t k s l t' k' s' l' : Nat} (h : zv_K M np nc t k s l) (h' : zv_K M np nc t' k' s' l') : t = t' ↔ s = s' := by
  rcases h with h | h | h | h | h | h | h | h | h <;> rcases h' with h' | h' | h' | h' | h' | h' | h' | h' | h' <;> omega
theorem zv_V_eq (h1 : ∀ p q q', M p q → M p q' → q = q') (h2 : ∀ p p' q, M p q → M p' q → p = p') (h : zv_V M np nc y x) (h' : zv_V M np nc y' x') : y = y' ↔ x = x' := by
  obtain ⟨t, k, s, l, a, b, rfl, rfl, h⟩ := h
  obtain ⟨t', k', s', l', a', b', rfl, rfl, h'⟩ := h'
  have c := zv_K_b h
  have c' := zv_K_b h'
  have d := zv_K_p h
  have d' := zv_K_p h'
  have e := zv_K_ts h h'
  rw [zv_eq (by omega) a (by omega) a', zv_eq (by omega) b (by omega) b']
  by_cases z : t = 3
  · by_cases z' : t' = 3
    · have m := d.2.1 z
      have m' := d'.2.1 z'
      constructor
      · intro ⟨e1, e2⟩
        subst e2
        exact ⟨e.mp e1, h1 _ _ _ m m'⟩
      · intro ⟨e1, e2⟩
        subst e2
        exact ⟨e.mpr e1, h2 _ _ _ m m'⟩
    · omega
  · by_cases z' : t' = 3
    · omega
    · have := d.2.2.2.2.2.2.2 z
      have := d'.2.2.2.2.2.2.2 z'
      omega
theorem zv_VA {t : Nat} (h : zv_tk t) (h3 : 3 ≤ t) : zv_V M np nc (zv_yA t) (zv_xA t) := by
  unfold zv_yA zv_xA
  unfold zv_tk at h
  by_cases c : t < 10
  · rw [if_pos c, if_pos c]
    refine ⟨1, _, 4, _, ?_, ?_, rfl, rfl, Or.inr (Or.inl ⟨rfl, rfl, rfl, ?_⟩)⟩ <;> split <;> omega
  · rw [if_neg c, if_neg c]
    by_cases d : t < 30
    · rw [if_pos d, if_pos d]
      exact ⟨0, _, 0, _, by omega, by omega, rfl, rfl, Or.inl ⟨rfl, rfl, rfl⟩⟩
    · rw [if_neg d, if_neg d]
      exact ⟨4, _, 1, _, by omega, by omega, rfl, rfl, Or.inr (Or.inr (Or.inr (Or.inr (Or.inl ⟨rfl, rfl, rfl, by omega⟩))))⟩
end
section
variable {T : Nat → Nat} {n np nc : Nat}
/-- what stands for one pair, of the text's data -/
def cd_M (T : Nat → Nat) (n : Nat) (p q : Nat) : Prop := ∃ r j, pz_Dn T n r j ∧ p = pz_AY T n r j ∧ q = pz_AX T n r j
theorem cd_Vl (hR : pz_Rd T n) (hn : n ≤ 70) {p : Nat} (hD : pz_D0 T p) (hm : ¬ pz_mk T p) : zv_V (cd_M T n) np nc (cd_yl T n p) (cd_xl T n p) := by
  unfold cd_yl cd_xl pz_lst
  by_cases c : p < n ∧ T p ≠ 1
  · rw [if_pos c, if_pos c]
    have hN : pz_Nd T n 0 p := ⟨c.1, Or.inl ⟨rfl, c.2, hm⟩⟩
    have h1 := pz_AY_lt hR hN
    have h2 := pz_AX_lt hR hN
    have h3 := pz_P_le (T := T) n hn
    have h4 := pz_W_le (T := T) (i := n)
    exact ⟨3, _, 2, _, by omega, by omega, rfl, rfl, Or.inr (Or.inr (Or.inr (Or.inl ⟨rfl, rfl, 0, p, ⟨hN, fun _ => hD, fun z => absurd rfl z⟩, rfl, rfl⟩)))⟩
  · rw [if_neg c, if_neg c]
    exact ⟨2, 0, 3, 0, by omega, by omega, rfl, rfl, Or.inr (Or.inr (Or.inl ⟨rfl, rfl, rfl, rfl⟩))⟩
theorem cd_Vv (hR : pz_Rd T n) (hn : n ≤ 70) (hT : ∀ i, i < n → zv_tk (T i)) {j : Nat} (hj : j < n) (h1 : T j ≠ 1) (hC : ¬ pz_CF T j) : zv_V (cd_M T n) np nc (cd_yv T n j) (cd_xv T n j) := by
  unfold cd_yv cd_xv pz_val
  by_cases c : T j = 0
  · rw [if_pos c, if_pos c]
    exact cd_Vl hR hn (pz_D0_o c hC) (fun z => by have := pz_mk_s.mp z; omega)
  · rw [if_neg c, if_neg c]
    by_cases d : T j = 2
    · rw [if_pos d, if_pos d]
      have hN : pz_Nd T n 1 j := ⟨hj, Or.inr ⟨Or.inl rfl, d⟩⟩
      have h1 := pz_AY_lt hR hN
      have h2 := pz_AX_lt hR hN
      have h3 := pz_P_le (T := T) n hn
      have h4 := pz_W_le (T := T) (i := n)
      exact ⟨3, _, 2, _, by omega, by omega, rfl, rfl, Or.inr (Or.inr (Or.inr (Or.inl ⟨rfl, rfl, 1, j, ⟨hN, fun z => by omega, fun _ => hC⟩, rfl, rfl⟩)))⟩
    · rw [if_neg d, if_neg d]
      exact zv_VA (hT j hj) (by omega)
/-- reading both sides: code and data -/
theorem cd_start (hR : pz_Rd T n) (hn : n ≤ 70) (hT : ∀ i, i < n → zv_tk (T i)) {FY RY FX RX : Nat → Int64} {py px : Nat} (hpy : pz_P T n ≤ py) (hpx : pz_W T n ≤ px)
    (hY : cd_De T n (pz_AY T n) (zv_c 3) (zv_c 2 0) zv_yA FY RY) (hX : cd_De T n (pz_AX T n) (zv_c 2) (zv_c 3 0) zv_xA FX RX) :
    cd_OK T n FY RY FX RX ∧ hp_OK T n (cd_M T n) np nc py px FY RY FX RX := by
  have y40 : zv_yA 40 = zv_c 4 40 := rfl
  have x40 : zv_xA 40 = zv_c 1 40 := rfl
  refine ⟨⟨fun p h1 h2 h3 _ => ?_, fun j h1 h2 _ => ?_⟩, fun p q h => ?_, fun p q q' h h' => ?_, fun p p' q h h' => ?_, fun p q h => ?_, fun r j h h' => ⟨fun q z => ?_, fun p z => ?_⟩, fun r j h => ?_⟩
  · exact ⟨(hY.1 p h1 h2 h3).1, (hY.1 p h1 h2 h3).2, (hX.1 p h1 h2 h3).1, (hX.1 p h1 h2 h3).2⟩
  · have a := hY.2 j h1 h2
    have b := hX.2 j h1 h2
    rw [y40] at a
    rw [x40] at b
    exact ⟨a, b⟩
  · obtain ⟨r, j, hD, rfl, rfl⟩ := h
    have := pz_AY_lt hR hD.1
    have := pz_AX_lt hR hD.1
    omega
  · obtain ⟨r, j, hD, rfl, rfl⟩ := h
    obtain ⟨r', j', hD', e, rfl⟩ := h'
    obtain ⟨rfl, rfl⟩ := pz_AY_inj hR hD.1 hD'.1 e
    rfl
  · obtain ⟨r, j, hD, rfl, rfl⟩ := h
    obtain ⟨r', j', hD', rfl, e⟩ := h'
    obtain ⟨rfl, rfl⟩ := pz_AX_inj hR hD.1 hD'.1 e
    rfl
  · obtain ⟨r, j, ⟨⟨hj, hN⟩, hD0, hD1⟩, rfl, rfl⟩ := h
    rcases hN with ⟨rfl, n1, nm⟩ | ⟨hr, n2⟩
    · have d := hD0 rfl
      obtain ⟨a1, a2⟩ := hY.1 j hj n1 nm
      obtain ⟨b1, b2⟩ := hX.1 j hj n1 nm
      obtain ⟨e1, e2⟩ := pz_nx_ok hR hj n1
      rw [a1, a2, b1, b2]
      exact ⟨cd_Vv hR hn hT hj n1 (fun z => d.1 z.2), cd_Vl hR hn (pz_D0_e e2 d) (pz_Fm_nmk e2)⟩
    · have d := hD1 (by omega)
      obtain ⟨a1, a2, a3, a4⟩ := hY.2 j hj n2
      obtain ⟨b1, b2, b3, b4⟩ := hX.2 j hj n2
      have hj1 : j + 1 < n := by
        by_cases z : j + 1 = n
        · exact absurd (z ▸ pz_mk_s.mpr n2) hR.2.2
        · omega
      have hj2 : T (j + 1) ≠ 1 := fun z => (hR.1 (j + 1) hj1 z).2 (pz_mk_s.mpr n2)
      have h3 := pz_P_le (T := T) n hn
      have h4 := pz_W_le (T := T) (i := n)
      rcases hr with rfl | rfl
      · rw [a1, a2, b1, b2]
        have hN2 : pz_Nd T n 2 j := ⟨hj, Or.inr ⟨Or.inr rfl, n2⟩⟩
        have g1 := pz_AY_lt hR hN2
        have g2 := pz_AX_lt hR hN2
        exact ⟨zv_VA (by unfold zv_tk; omega) (by omega), 3, _, 2, _, by omega, by omega, rfl, rfl, Or.inr (Or.inr (Or.inr (Or.inl ⟨rfl, rfl, 2, j, ⟨hN2, fun z => by omega, fun _ => d⟩, rfl, rfl⟩)))⟩
      · rw [a3, a4, b3, b4]
        exact ⟨cd_Vv hR hn hT hj1 hj2 (fun z => z.1 (pz_mk_s.mpr n2)), 2, 0, 3, 0, by omega, by omega, rfl, rfl, Or.inr (Or.inr (Or.inl ⟨rfl, rfl, rfl, rfl⟩))⟩
  · obtain ⟨r', j', hD', e, _⟩ := z
    obtain ⟨rfl, rfl⟩ := pz_AY_inj hR h hD'.1 e
    exact h' hD'
  · obtain ⟨r', j', hD', _, e⟩ := z
    obtain ⟨rfl, rfl⟩ := pz_AX_inj hR h hD'.1 e
    exact h' hD'
  · have := pz_AY_lt hR h
    have := pz_AX_lt hR h
    omega
end
end
section
/-! X reads from the right: what stands when the tokens from i on are read, and one token more -/
def xr_I (T : Nat → Nat) (n i : Nat) (OL F R : Nat → Int64) : Prop :=
  (∀ k c, k < pz_dd T i → i ≤ c → c < n → pz_dd T (c + 1) = k → (∀ j, i ≤ j → j ≤ c → k < pz_dd T j) → OL k = cd_xl T n (c + 1)) ∧
  (∀ p, i ≤ p → p < n → T p ≠ 1 → (p = i ∨ ¬ pz_mk T p) → F (pz_AX T n 0 p) = cd_xv T n p ∧ R (pz_AX T n 0 p) = cd_xl T n (pz_nx T n p)) ∧
  (∀ j, i ≤ j → j < n → T j = 2 → F (pz_AX T n 1 j) = zv_c 1 40 ∧ R (pz_AX T n 1 j) = zv_c 2 (pz_AX T n 2 j) ∧ F (pz_AX T n 2 j) = cd_xv T n (j + 1) ∧ R (pz_AX T n 2 j) = zv_c 3 0)
section
variable {T : Nat → Nat} {n i : Nat} {OL F R : Nat → Int64}
theorem pz_base {p : Nat} (hR : pz_Rd T n) (hp : p < n) (h1 : T p ≠ 1) : ∃ b, pz_bs T n p = b ∧ p ≤ b ∧ b < n ∧ (∀ j, p ≤ j → j < b → T j = 2) ∧ T b ≠ 2 ∧ T b ≠ 1 ∧ pz_W T (b + 1) = pz_W T b + 1 := by
  obtain ⟨e, he, hF⟩ := pz_Fm_ex hR hp h1
  obtain ⟨_, b, hb, a1, a2, a3, a4⟩ := pz_nx_eq hF he
  refine ⟨b, hb, a1, by omega, a3, by omega, by omega, ?_⟩
  rw [pz_W, pz_w, if_neg (by omega), if_neg (by omega)]
theorem xr_0l {p : Nat} (hR : pz_Rd T n) (hi : i < p) (hp : p < n) (h1 : T p ≠ 1) : pz_AX T n 0 p < pz_W T n - pz_W T (i + 1) := by
  obtain ⟨b, hb, a1, a2, _, _, _, a6⟩ := pz_base hR hp h1
  have m1 := pz_W_mono (T := T) (show i + 1 ≤ b by omega)
  have m2 := pz_W_mono (T := T) (show b + 1 ≤ n by omega)
  simp only [pz_AX, hb]
  omega
theorem xr_2l {j : Nat} (hi : i < j) (hj : j < n) (h2 : T j = 2) : pz_AX T n 1 j < pz_W T n - pz_W T (i + 1) ∧ pz_AX T n 2 j < pz_W T n - pz_W T (i + 1) := by
  have m1 := pz_W_mono (T := T) (show i + 1 ≤ j by omega)
  have m2 := pz_W_mono (T := T) (show j + 1 ≤ n by omega)
  have hw : pz_W T (j + 1) = pz_W T j + 2 := by rw [pz_W, pz_w, if_neg (by omega), if_pos h2]
  simp only [pz_AX]
  omega
/-- where the list stands that a "(" takes up -/
theorem xr_nx (hR : pz_Rd T n) (hi : i < n) (h0 : T i = 0) : ∃ c, pz_nx T n i = c + 1 ∧ i < c ∧ c < n ∧ pz_dd T (c + 1) = pz_dd T i ∧ (∀ j, i + 1 ≤ j → j ≤ c → pz_dd T i < pz_dd T j) := by
  obtain ⟨e, he, hF⟩ := pz_Fm_ex hR hi (by omega)
  obtain ⟨hn, b, hb, a1, a2, a3, a4⟩ := pz_nx_eq hF he
  have hbi : b = i := by
    by_cases z : i < b
    · have := a3 i (Nat.le_refl _) z; omega
    · omega
  subst hbi
  rcases a4 with ⟨a5, _⟩ | ⟨_, a6, a7, a8, a9⟩
  · omega
  · refine ⟨e - 1, by omega, by omega, by omega, ?_, fun j k1 k2 => a9 j (by omega) (by omega)⟩
    rw [show e - 1 + 1 = e by omega, a8]
theorem xr_start : xr_I T n n OL F R := by
  refine ⟨fun k c h1 h2 h3 => by omega, fun p h1 h2 => by omega, fun j h1 h2 => by omega⟩
theorem xr_1 (hR : pz_Rd T n) (hi : i < n) (h1 : T i = 1) (h : xr_I T n (i + 1) OL F R) : pz_dd T i = pz_dd T (i + 1) + 1 ∧ xr_I T n i (vp_updL OL (pz_dd T (i + 1)) (cd_xl T n (i + 1))) F R := by
  have hd := pz_dd_c h1
  have h0 := (hR.1 i hi h1).1
  refine ⟨by omega, fun k c a1 a2 a3 a4 a5 => ?_, fun p a1 a2 a3 a4 => ?_, fun j a1 a2 a3 => ?_⟩
  · by_cases z : k = pz_dd T (i + 1)
    · have hc : c = i := by
        by_cases y : i + 1 ≤ c
        · have := a5 (i + 1) (by omega) y; omega
        · omega
      rw [z, hc, pk_uLs]
    · have hc : i + 1 ≤ c := by
        by_cases y : c = i
        · subst y; omega
        · omega
      rw [pk_uLn z]
      exact h.1 k c (by omega) hc a3 a4 (fun j b1 b2 => a5 j (by omega) b2)
  · have hp : p ≠ i := fun z => a3 (z ▸ h1)
    exact h.2.1 p (by omega) a2 a3 (Or.inr (a4.resolve_left hp))
  · have hp : j ≠ i := fun z => by rw [z, h1] at a3; omega
    exact h.2.2 j (by omega) a2 a3
theorem xr_new (hR : pz_Rd T n) (hi : i < n) (h2 : T i ≠ 2) (h1 : T i ≠ 1) (hd : pz_dd T i ≤ pz_dd T (i + 1)) (hj : ∀ k, k < pz_dd T i → k < pz_dd T (i + 1))
    (h : xr_I T n (i + 1) OL F R) : xr_I T n i OL (vp_updL F (pz_W T n - pz_W T (i + 1)) (cd_xv T n i)) (vp_updL R (pz_W T n - pz_W T (i + 1)) (cd_xl T n (pz_nx T n i))) := by
  refine ⟨fun k c a1 a2 a3 a4 a5 => ?_, fun p a1 a2 a3 a4 => ?_, fun j a1 a2 a3 => ?_⟩
  · have hc : c ≠ i := by
      intro z
      subst z
      omega
    exact h.1 k c (by omega) (by omega) a3 a4 (fun j b1 b2 => a5 j (by omega) b2)
  · by_cases z : p = i
    · subst z
      have hA : pz_AX T n 0 p = pz_W T n - pz_W T (p + 1) := by simp only [pz_AX, pz_bs_n h2]
      rw [hA, pk_uLs, pk_uLs]
      exact ⟨rfl, rfl⟩
    · have hl := xr_0l hR (show i < p by omega) a2 a3
      rw [pk_uLn (by omega), pk_uLn (by omega)]
      exact h.2.1 p (by omega) a2 a3 (Or.inr (a4.resolve_left z))
  · have z : j ≠ i := fun z => h2 (z ▸ a3)
    have hl := xr_2l (show i < j by omega) a2 a3
    rw [pk_uLn (by omega), pk_uLn (by omega), pk_uLn (by omega), pk_uLn (by omega)]
    exact h.2.2 j (by omega) a2 a3
theorem xr_l (hi : i < n) (h2 : T i ≠ 2) (h1 : T i ≠ 1) : cd_xl T n i = zv_c 2 (pz_W T n - pz_W T (i + 1)) := by
  unfold cd_xl pz_lst
  rw [if_pos ⟨hi, h1⟩]
  simp only [pz_AX, pz_bs_n h2]
theorem xr_l1 (h1 : T i = 1) : cd_xl T n i = zv_c 3 0 := by
  unfold cd_xl pz_lst
  rw [if_neg (fun z => z.2 h1)]
theorem xr_ln : cd_xl T n n = zv_c 3 0 := by
  unfold cd_xl pz_lst
  rw [if_neg (fun z => by omega)]
theorem xr_0 (hR : pz_Rd T n) (hi : i < n) (h0 : T i = 0) (h : xr_I T n (i + 1) OL F R) : pz_dd T (i + 1) = pz_dd T i + 1 ∧ OL (pz_dd T i) = cd_xl T n (pz_nx T n i) ∧ cd_xv T n i = cd_xl T n (i + 1) ∧
    xr_I T n i OL (vp_updL F (pz_W T n - pz_W T (i + 1)) (cd_xl T n (i + 1))) (vp_updL R (pz_W T n - pz_W T (i + 1)) (cd_xl T n (pz_nx T n i))) := by
  have hd := pz_dd_o h0
  obtain ⟨c, hn, c1, c2, c3, c4⟩ := xr_nx hR hi h0
  have hv : cd_xv T n i = cd_xl T n (i + 1) := by
    unfold cd_xv pz_val
    rw [if_pos h0]
    rfl
  refine ⟨hd, ?_, hv, ?_⟩
  · rw [hn]
    exact h.1 _ c (by omega) (by omega) c2 c3 c4
  · rw [← hv]
    exact xr_new hR hi (by omega) (by omega) (by omega) (fun k hk => by omega) h
theorem xr_a (hR : pz_Rd T n) (hi : i < n) (h3 : 3 ≤ T i) (h : xr_I T n (i + 1) OL F R) : pz_dd T (i + 1) = pz_dd T i ∧
    xr_I T n i OL (vp_updL F (pz_W T n - pz_W T (i + 1)) (zv_xA (T i))) (vp_updL R (pz_W T n - pz_W T (i + 1)) (cd_xl T n (i + 1))) := by
  have hd := pz_dd_a (T := T) (i := i) (by omega) (by omega)
  have hv : cd_xv T n i = zv_xA (T i) := by
    unfold cd_xv pz_val
    rw [if_neg (by omega), if_neg (by omega)]
  have hn : pz_nx T n i = i + 1 := by
    unfold pz_nx
    rw [pz_bs_n (by omega), if_neg (by omega)]
  have := xr_new hR hi (by omega) (by omega) (by omega) (fun k hk => by omega) h
  rw [hv, hn] at this
  exact ⟨hd, this⟩
theorem xr_2 (hR : pz_Rd T n) (hi : i < n) (h2 : T i = 2) (h : xr_I T n (i + 1) OL F R) : pz_dd T (i + 1) = pz_dd T i ∧ i + 1 < n ∧ T (i + 1) ≠ 1 ∧ cd_xl T n (i + 1) = zv_c 2 (pz_AX T n 0 (i + 1)) ∧ cd_xl T n i = zv_c 2 (pz_AX T n 0 (i + 1)) ∧
    pz_AX T n 0 (i + 1) < pz_W T n - pz_W T (i + 1) ∧ F (pz_AX T n 0 (i + 1)) = cd_xv T n (i + 1) ∧
    xr_I T n i OL (vp_updL (vp_updL (vp_updL F (pz_W T n - pz_W T (i + 1)) (cd_xv T n (i + 1))) (pz_W T n - pz_W T (i + 1) + 1) (zv_c 1 40)) (pz_AX T n 0 (i + 1)) (zv_c 2 (pz_W T n - pz_W T (i + 1) + 1)))
      (vp_updL (vp_updL R (pz_W T n - pz_W T (i + 1)) (zv_c 3 0)) (pz_W T n - pz_W T (i + 1) + 1) (zv_c 2 (pz_W T n - pz_W T (i + 1)))) := by
  have hd := pz_dd_a (T := T) (i := i) (by omega) (by omega)
  have hi1 : i + 1 < n := by
    by_cases z : i + 1 = n
    · exact absurd (z ▸ pz_mk_s.mpr h2) hR.2.2
    · omega
  have h11 : T (i + 1) ≠ 1 := fun z => (hR.1 (i + 1) hi1 z).2 (pz_mk_s.mpr h2)
  have hA : pz_AX T n 0 i = pz_AX T n 0 (i + 1) := by simp only [pz_AX, pz_bs_s hi h2]
  have hl := xr_0l hR (show i < i + 1 by omega) hi1 h11
  have hv : cd_xv T n i = zv_c 2 (pz_W T n - pz_W T (i + 1) + 1) := by
    unfold cd_xv pz_val
    rw [if_neg (by omega), if_pos h2]
    rfl
  obtain ⟨f1, f2⟩ := h.2.1 (i + 1) (Nat.le_refl _) hi1 h11 (Or.inl rfl)
  obtain ⟨b, hb, b1, b2, b3, b4, b5, b6⟩ := pz_base hR hi1 h11
  have hAb : pz_AX T n 0 (i + 1) = pz_W T n - pz_W T (b + 1) := by simp only [pz_AX, hb]
  have mb := pz_W_mono (T := T) (show b + 1 ≤ n by omega)
  refine ⟨hd, hi1, h11, ?_, ?_, hl, f1, fun k c a1 a2 a3 a4 a5 => ?_, fun p a1 a2 a3 a4 => ?_, fun j a1 a2 a3 => ?_⟩
  · unfold cd_xl pz_lst
    rw [if_pos ⟨hi1, h11⟩]
  · unfold cd_xl pz_lst
    rw [if_pos ⟨hi, by omega⟩, hA]
  · have hc : c ≠ i := by
      intro z
      subst z
      omega
    exact h.1 k c (by omega) (by omega) a3 a4 (fun j b1 b2 => a5 j (by omega) b2)
  · by_cases z : p = i
    · subst z
      rw [hA, pk_uLs, pk_uLn (by omega), pk_uLn (by omega), f2, hv, pz_nx_q hi h2]
      exact ⟨rfl, rfl⟩
    · have hm := a4.resolve_left z
      have hl2 := xr_0l hR (show i < p by omega) a2 a3
      have hpb : b < p := by
        by_cases y : b < p
        · exact y
        · have y1 : p ≠ i + 1 := fun y1 => hm (y1 ▸ pz_mk_s.mpr h2)
          exact absurd ⟨by omega, b3 (p - 1) (by omega) (by omega)⟩ hm
      have hl3 := xr_0l hR hpb a2 a3
      rw [pk_uLn (by omega), pk_uLn (by omega), pk_uLn (by omega), pk_uLn (by omega), pk_uLn (by omega)]
      exact h.2.1 p (by omega) a2 a3 (Or.inr hm)
  · by_cases z : j = i
    · subst z
      have e1 : pz_AX T n 1 j = pz_W T n - pz_W T (j + 1) + 1 := rfl
      have e2 : pz_AX T n 2 j = pz_W T n - pz_W T (j + 1) := rfl
      rw [e1, e2]
      refine ⟨?_, ?_, ?_, ?_⟩
      · rw [pk_uLn (by omega), pk_uLs]
      · rw [pk_uLs]
      · rw [pk_uLn (by omega), pk_uLn (by omega), pk_uLs]
      · rw [pk_uLn (by omega), pk_uLs]
    · have hl2 := xr_2l (show i < j by omega) a2 a3
      have e1 : pz_AX T n 1 j = pz_W T n - pz_W T (j + 1) + 1 := rfl
      have e2 : pz_AX T n 2 j = pz_W T n - pz_W T (j + 1) := rfl
      have hw : pz_W T (j + 1) = pz_W T j + 2 := by rw [pz_W, pz_w, if_neg (by omega), if_pos a3]
      have hn1 : pz_AX T n 1 j ≠ pz_AX T n 0 (i + 1) ∧ pz_AX T n 2 j ≠ pz_AX T n 0 (i + 1) := by
        have mj := pz_W_mono (T := T) (show j + 1 ≤ n by omega)
        by_cases y : j < b
        · have := pz_W_mono (T := T) (show j + 1 ≤ b by omega)
          omega
        · have y2 : j ≠ b := fun y2 => b4 (y2 ▸ a3)
          have := pz_W_mono (T := T) (show b + 1 ≤ j by omega)
          omega
      rw [pk_uLn hn1.1, pk_uLn hn1.2, pk_uLn (by omega), pk_uLn (by omega), pk_uLn (by omega), pk_uLn (by omega), pk_uLn (by omega), pk_uLn (by omega), pk_uLn (by omega), pk_uLn (by omega)]
      exact h.2.2 j (by omega) a2 a3
/-- all read: the description of X's pairs -/
theorem xr_end (h : xr_I T n 0 OL F R) : cd_De T n (pz_AX T n) (zv_c 2) (zv_c 3 0) zv_xA F R :=
  ⟨fun p h1 h2 h3 => h.2.1 p (by omega) h1 h2 (Or.inr h3), fun j h1 h2 => h.2.2 j (by omega) h1 h2⟩
end
end
section
/-! Y reads from the left with a stack of what is begun: what stands when the tokens before t are read -/
def yr_s (o : Nat → Nat) (k : Nat) : Nat := if k = 0 then 0 else o k + 1
def yr_sg (T : Nat → Nat) (n : Nat) (o : Nat → Nat) (H L : Nat → Int32) (k : Nat) : Prop :=
  (1 ≤ k ∧ T (o k) = 2 ∧ H k = -2 ∧ o (k + 1) = o k + 1) ∨
  ((k = 0 ∨ T (o k) = 0) ∧ yr_s o k ≤ o (k + 1) ∧ pz_dd T (o (k + 1)) = pz_dd T (yr_s o k) ∧ (∀ j, yr_s o k ≤ j → j ≤ o (k + 1) → pz_dd T (yr_s o k) ≤ pz_dd T j) ∧
    ((yr_s o k = o (k + 1) ∧ H k = -1 ∧ L k = -1) ∨
     (∃ e p, pz_Fm T (yr_s o k) e ∧ e ≤ o (k + 1) ∧ pz_Fm T p (o (k + 1)) ∧ yr_s o k ≤ p ∧ ¬ pz_mk T p ∧ H k = nI (pz_AY T n 0 (yr_s o k)) ∧ L k = nI (pz_AY T n 0 p))))
def yr_H (T : Nat → Nat) (n t : Nat) (F R : Nat → Int64) : Prop :=
  (∀ p e, pz_Fm T p e → e ≤ t → ¬ pz_mk T p → F (pz_AY T n 0 p) = cd_yv T n p ∧ ((∃ e', e' ≤ t ∧ pz_Fm T e e') → R (pz_AY T n 0 p) = zv_c 3 (pz_AY T n 0 e)) ∧ ((¬ ∃ e', e' ≤ t ∧ pz_Fm T e e') → R (pz_AY T n 0 p) = zv_c 2 0)) ∧
  (∀ j e, T j = 2 → pz_Fm T j e → e ≤ t → F (pz_AY T n 1 j) = zv_c 4 40 ∧ R (pz_AY T n 1 j) = zv_c 3 (pz_AY T n 2 j) ∧ F (pz_AY T n 2 j) = cd_yv T n (j + 1) ∧ R (pz_AY T n 2 j) = zv_c 2 0)
section
variable {T : Nat → Nat} {n t k p b e : Nat} {o : Nat → Nat} {H L : Nat → Int32} {F R F' R' : Nat → Int64}
theorem yr_ad {j : Nat} (h : pz_Fm T j e) (he : e ≤ n) : ∃ b, j ≤ b ∧ b < e ∧ (∀ i, j ≤ i → i < b → T i = 2) ∧ T b ≠ 2 ∧ pz_cb T (e - 1) = b ∧ pz_P T e = pz_P T (e - 1) + (1 + 2 * pz_qn T b) ∧ b - j ≤ pz_qn T b ∧
    pz_AY T n 0 j = pz_P T (e - 1) + 2 * pz_qn T b ∧ pz_AY T n 1 j = pz_P T (e - 1) + 2 * (b - 1 - j) + 1 ∧ pz_AY T n 2 j = pz_P T (e - 1) + 2 * (b - 1 - j) := by
  obtain ⟨hn, b, hb, a1, a2, a3, a4⟩ := pz_nx_eq h he
  have hP := pz_P_s a4
  refine ⟨b, a1, a2, a3, by omega, pz_cb_eq a4, hP, pz_qn_ge a3 a1, ?_, ?_, ?_⟩
  · simp only [pz_AY, hn]; omega
  · simp only [pz_AY, hn, hb]
  · simp only [pz_AY, hn, hb]
theorem yr_lt {j : Nat} (h : pz_Fm T j e) (he : e ≤ n) (ht : e ≤ t) : pz_AY T n 0 j < pz_P T t := by
  obtain ⟨b, _, _, _, _, _, h1, _, h2, _⟩ := yr_ad h he
  have := pz_P_mono (T := T) ht
  omega
theorem yr_lt2 {j : Nat} (h : pz_Fm T j e) (he : e ≤ n) (ht : e ≤ t) (h2 : T j = 2) : pz_AY T n 1 j < pz_P T t ∧ pz_AY T n 2 j < pz_P T t := by
  obtain ⟨b, a1, a2, a3, a4, _, h1, h3, _, h4, h5⟩ := yr_ad h he
  have := pz_P_mono (T := T) ht
  have : j ≠ b := fun z => a4 (z ▸ h2)
  omega
/-- two forms that end together have one base; if none is marked they are one -/
theorem yr_same {j j' : Nat} (h : pz_Fm T j e) (h' : pz_Fm T j' e) (hm : ¬ pz_mk T j) (hm' : ¬ pz_mk T j') : j = j' := by
  obtain ⟨b, a1, a2, a3, a4, a5, _⟩ := yr_ad h (Nat.le_refl _)
  obtain ⟨b', c1, c2, c3, c4, c5, _⟩ := yr_ad h' (Nat.le_refl _)
  have hb : b = b' := a5.symm.trans c5
  subst hb
  exact pz_run_eq a3 c3 a1 c1 hm hm'
theorem yr_sep {j j' e' : Nat} (h : pz_Fm T j e) (h' : pz_Fm T j' e') (he : e ≤ n) (he' : e' ≤ n) (hne : e ≠ e') : pz_AY T n 0 j ≠ pz_AY T n 0 j' ∧ (T j' = 2 → pz_AY T n 0 j ≠ pz_AY T n 1 j' ∧ pz_AY T n 0 j ≠ pz_AY T n 2 j') := by
  obtain ⟨b, a1, a2, a3, a4, a5, a6, a7, a8, a9, a10⟩ := yr_ad h he
  obtain ⟨b', c1, c2, c3, c4, c5, c6, c7, c8, c9, c10⟩ := yr_ad h' he'
  have hj : T j' = 2 → j' ≠ b' := fun z y => c4 (y ▸ z)
  by_cases z : e < e'
  · have := pz_P_mono (T := T) (show e ≤ e' - 1 by omega)
    exact ⟨by omega, fun y => by have := hj y; omega⟩
  · have := pz_P_mono (T := T) (show e' ≤ e - 1 by omega)
    exact ⟨by omega, fun y => by have := hj y; omega⟩
theorem yr_sep2 {j j' : Nat} (h : pz_Fm T j e) (h' : pz_Fm T j' e) (he : e ≤ n) (h2 : T j' = 2) : pz_AY T n 0 j ≠ pz_AY T n 1 j' ∧ pz_AY T n 0 j ≠ pz_AY T n 2 j' := by
  obtain ⟨b, a1, a2, a3, a4, a5, a6, a7, a8, a9, a10⟩ := yr_ad h he
  obtain ⟨b', c1, c2, c3, c4, c5, c6, c7, c8, c9, c10⟩ := yr_ad h' he
  have hb : b = b' := a5.symm.trans c5
  subst hb
  have : j' ≠ b := fun z => c4 (z ▸ h2)
  omega
/-- the form with base b, begun at p, is put: no pair of its list stood before -/
theorem yr_put0 (h : yr_H T n t F R) (hn : t + 1 ≤ n) (hp : pz_Fm T p (t + 1)) (hm : ¬ pz_mk T p) (hno : ∀ q, ¬ pz_Fm T q p)
    (hF : ∀ a, a < pz_P T t → F' a = F a) (hR : ∀ a, a < pz_P T t → R' a = R a)
    (hQ : ∀ j, T j = 2 → p ≤ j → pz_Fm T j (t + 1) → F' (pz_AY T n 1 j) = zv_c 4 40 ∧ R' (pz_AY T n 1 j) = zv_c 3 (pz_AY T n 2 j) ∧ F' (pz_AY T n 2 j) = cd_yv T n (j + 1) ∧ R' (pz_AY T n 2 j) = zv_c 2 0)
    (hE : F' (pz_AY T n 0 p) = cd_yv T n p ∧ R' (pz_AY T n 0 p) = zv_c 2 0) : yr_H T n (t + 1) F' R' := by
  have hlast : ∀ e1 e', pz_Fm T e1 e' → e' ≤ t + 1 → ¬ pz_mk T e1 → e1 ≠ p → e' ≤ t := by
    intro e1 e' h1 h2 h3 h4
    by_cases z : e' = t + 1
    · subst z
      exact absurd (yr_same h1 hp h3 hm) h4
    · omega
  constructor
  · intro p1 e1 h1 h2 h3
    by_cases z : e1 = t + 1
    · subst z
      have hpp := yr_same h1 hp h3 hm
      subst hpp
      refine ⟨hE.1, fun ⟨e', a, c⟩ => ?_, fun _ => hE.2⟩
      have := pz_Fm_lt c
      omega
    · have hl := yr_lt (n := n) h1 (by omega) (show e1 ≤ t by omega)
      obtain ⟨g1, g2, g3⟩ := h.1 p1 e1 h1 (by omega) h3
      have hne : e1 ≠ p := fun y => hno p1 (y ▸ h1)
      rw [hF _ hl, hR _ hl]
      refine ⟨g1, fun ⟨e', a, c⟩ => g2 ⟨e', hlast _ _ c a (pz_Fm_nmk h1) hne, c⟩, fun y => g3 (fun ⟨e', a, c⟩ => y ⟨e', by omega, c⟩)⟩
  · intro j e h1 h2 h3
    by_cases z : e = t + 1
    · subst z
      refine hQ j h1 ?_ h2
      obtain ⟨b, a1, a2, a3, a4, a5, _⟩ := yr_ad hp hn
      obtain ⟨b', c1, c2, c3, c4, c5, _⟩ := yr_ad h2 hn
      have hb : b = b' := a5.symm.trans c5
      subst hb
      by_cases y : p ≤ j
      · exact y
      · exact absurd ⟨by omega, c3 (p - 1) (by omega) (by omega)⟩ hm
    · have hl := yr_lt2 (n := n) h2 (by omega) (show e ≤ t by omega) h1
      rw [hF _ hl.1, hR _ hl.1, hF _ hl.2, hR _ hl.2]
      exact h.2 j e h1 h2 (by omega)
/-- the same, and q is the pair before it in its list -/
theorem yr_put1 {q : Nat} (h : yr_H T n t F R) (hn : t + 1 ≤ n) (hp : pz_Fm T p (t + 1)) (hm : ¬ pz_mk T p) (hq : pz_Fm T q p) (hmq : ¬ pz_mk T q)
    (hF : ∀ a, a < pz_P T t → F' a = F a) (hR : ∀ a, a < pz_P T t → R' a = R a)
    (hQ : ∀ j, T j = 2 → p ≤ j → pz_Fm T j (t + 1) → F' (pz_AY T n 1 j) = zv_c 4 40 ∧ R' (pz_AY T n 1 j) = zv_c 3 (pz_AY T n 2 j) ∧ F' (pz_AY T n 2 j) = cd_yv T n (j + 1) ∧ R' (pz_AY T n 2 j) = zv_c 2 0)
    (hE : F' (pz_AY T n 0 p) = cd_yv T n p ∧ R' (pz_AY T n 0 p) = zv_c 2 0) : yr_H T n (t + 1) F' (vp_updL R' (pz_AY T n 0 q) (zv_c 3 (pz_AY T n 0 p))) := by
  have hpt := pz_Fm_lt hp
  have hlast : ∀ e1 e', pz_Fm T e1 e' → e' ≤ t + 1 → ¬ pz_mk T e1 → e1 ≠ p → e' ≤ t := by
    intro e1 e' h1 h2 h3 h4
    by_cases z : e' = t + 1
    · subst z
      exact absurd (yr_same h1 hp h3 hm) h4
    · omega
  constructor
  · intro p1 e1 h1 h2 h3
    by_cases z : e1 = t + 1
    · subst z
      have hpp := yr_same h1 hp h3 hm
      subst hpp
      have hs := (yr_sep (n := n) h1 hq hn (by omega) (by omega)).1
      rw [pk_uLn hs]
      refine ⟨hE.1, fun ⟨e', a, c⟩ => ?_, fun _ => hE.2⟩
      have := pz_Fm_lt c
      omega
    · have hl := yr_lt (n := n) h1 (by omega) (show e1 ≤ t by omega)
      obtain ⟨g1, g2, g3⟩ := h.1 p1 e1 h1 (by omega) h3
      by_cases y : e1 = p
      · subst y
        have hqq := yr_same h1 hq h3 hmq
        subst hqq
        rw [hF _ hl, pk_uLs]
        exact ⟨g1, fun _ => rfl, fun w => absurd ⟨t + 1, Nat.le_refl _, hp⟩ w⟩
      · have hs := (yr_sep (n := n) h1 hq (by omega) (by omega) y).1
        rw [hF _ hl, pk_uLn hs, hR _ hl]
        refine ⟨g1, fun ⟨e', a, c⟩ => g2 ⟨e', hlast _ _ c a (pz_Fm_nmk h1) y, c⟩, fun y => g3 (fun ⟨e', a, c⟩ => y ⟨e', by omega, c⟩)⟩
  · intro j e h1 h2 h3
    have hs : pz_AY T n 1 j ≠ pz_AY T n 0 q ∧ pz_AY T n 2 j ≠ pz_AY T n 0 q := by
      by_cases y : p = e
      · subst y
        have := yr_sep2 (n := n) hq h2 (by omega) h1
        exact ⟨this.1.symm, this.2.symm⟩
      · have := (yr_sep (n := n) hq h2 (by omega) (by omega) y).2 h1
        exact ⟨this.1.symm, this.2.symm⟩
    rw [pk_uLn hs.1, pk_uLn hs.2]
    by_cases z : e = t + 1
    · subst z
      refine hQ j h1 ?_ h2
      obtain ⟨b, a1, a2, a3, a4, a5, _⟩ := yr_ad hp hn
      obtain ⟨b', c1, c2, c3, c4, c5, _⟩ := yr_ad h2 hn
      have hb : b = b' := a5.symm.trans c5
      subst hb
      by_cases y : p ≤ j
      · exact y
      · exact absurd ⟨by omega, c3 (p - 1) (by omega) (by omega)⟩ hm
    · have hl := yr_lt2 (n := n) h2 (by omega) (show e ≤ t by omega) h1
      rw [hF _ hl.1, hR _ hl.1, hF _ hl.2, hR _ hl.2]
      exact h.2 j e h1 h2 (by omega)
theorem yr_H0 : yr_H T n 0 F R := by
  constructor
  · intro p e h1 h2
    have := pz_Fm_lt h1
    omega
  · intro j e _ h1 h2
    have := pz_Fm_lt h1
    omega
/-- a token that ends no form -/
theorem yr_Hs (h : yr_H T n t F R) (ht : T t = 0 ∨ T t = 2) : yr_H T n (t + 1) F R := by
  have hl : ∀ p e, pz_Fm T p e → e ≤ t + 1 → e ≤ t := by
    intro p e h1 h2
    by_cases z : e = t + 1
    · subst z
      have := pz_Fm_last h1
      rw [Nat.add_sub_cancel] at this
      omega
    · omega
  constructor
  · intro p e h1 h2 h3
    obtain ⟨g1, g2, g3⟩ := h.1 p e h1 (hl _ _ h1 h2) h3
    exact ⟨g1, fun ⟨e', a, c⟩ => g2 ⟨e', hl _ _ c a, c⟩, fun y => g3 (fun ⟨e', a, c⟩ => y ⟨e', by omega, c⟩)⟩
  · intro j e h1 h2 h3
    exact h.2 j e h1 h2 (hl _ _ h2 h3)
/-- all read: the description of Y's pairs -/
theorem yr_end (hR : pz_Rd T n) (h : yr_H T n n F R) : cd_De T n (pz_AY T n) (zv_c 3) (zv_c 2 0) zv_yA F R := by
  constructor
  · intro p h1 h2 h3
    obtain ⟨e1, e2⟩ := pz_nx_ok hR h1 h2
    obtain ⟨g1, g2, g3⟩ := h.1 p _ e2 e1 h3
    refine ⟨g1, ?_⟩
    unfold pz_lst
    by_cases c : pz_nx T n p < n ∧ T (pz_nx T n p) ≠ 1
    · rw [if_pos c]
      obtain ⟨e, a1, a2⟩ := pz_Fm_ex hR c.1 c.2
      exact g2 ⟨e, a1, a2⟩
    · rw [if_neg c]
      refine g3 (fun ⟨e', a, d⟩ => c ⟨?_, pz_Fm_n1 d⟩)
      have := pz_Fm_lt d
      omega
  · intro j h1 h2
    obtain ⟨e1, e2⟩ := pz_nx_ok hR h1 (show T j ≠ 1 by omega)
    exact h.2 j _ h2 e2 e1
end
end
section
/-! Y's stack of what is begun -/
section
variable {T : Nat → Nat} {n t k m p b e : Nat} {o : Nat → Nat} {H L : Nat → Int32}
theorem yr_n2 {a : Nat} (h : a < 2 ^ 31) : nI a ≠ -2 ∧ nI a ≠ -1 := by
  have h1 := nI_pos h
  constructor
  · intro z; rw [z] at h1; exact h1 (by decide)
  · intro z; rw [z] at h1; exact h1 (by decide)
theorem yr_sg_q (h : yr_sg T n o H L k) (h2 : H k = -2) (hn : o (k + 1) ≤ n) (hP : pz_P T n < 2 ^ 31) : 1 ≤ k ∧ T (o k) = 2 ∧ o (k + 1) = o k + 1 := by
  rcases h with ⟨a, c, _, d⟩ | ⟨_, _, _, _, ⟨_, c, _⟩ | ⟨e, _, f1, f2, _, _, _, c, _⟩⟩
  · exact ⟨a, c, d⟩
  · rw [h2] at c; exact absurd c (by decide)
  · rw [h2] at c
    have := yr_lt f1 (n := n) (t := n) (by omega) (by omega)
    exact absurd c.symm (yr_n2 (by omega)).1
theorem yr_sg_l (h : yr_sg T n o H L k) (h2 : H k ≠ -2) : (k = 0 ∨ T (o k) = 0) ∧ yr_s o k ≤ o (k + 1) ∧ pz_dd T (o (k + 1)) = pz_dd T (yr_s o k) ∧ (∀ j, yr_s o k ≤ j → j ≤ o (k + 1) → pz_dd T (yr_s o k) ≤ pz_dd T j) ∧
    ((yr_s o k = o (k + 1) ∧ H k = -1 ∧ L k = -1) ∨
     (∃ e p, pz_Fm T (yr_s o k) e ∧ e ≤ o (k + 1) ∧ pz_Fm T p (o (k + 1)) ∧ yr_s o k ≤ p ∧ ¬ pz_mk T p ∧ H k = nI (pz_AY T n 0 (yr_s o k)) ∧ L k = nI (pz_AY T n 0 p))) := by
  rcases h with ⟨_, _, c, _⟩ | h
  · exact absurd c h2
  · exact h
theorem yr_s_nF (h : k = 0 ∨ T (o k) = 0) (q : Nat) : ¬ pz_Fm T q (yr_s o k) := by
  intro z
  have h1 := pz_Fm_lt z
  have h2 := pz_Fm_last z
  unfold yr_s at h1 h2
  by_cases c : k = 0
  · rw [if_pos c] at h1; omega
  · rw [if_neg c, Nat.add_sub_cancel] at h2
    omega
theorem yr_s_nmk (h : k = 0 ∨ T (o k) = 0) : ¬ pz_mk T (yr_s o k) := by
  unfold yr_s
  by_cases c : k = 0
  · rw [if_pos c]; exact pz_mk_0
  · rw [if_neg c]
    intro z
    have := pz_mk_s.mp z
    omega
theorem yr_sg_nmk (h : yr_sg T n o H L k) (h2 : H k ≠ -2) : ¬ pz_mk T (o (k + 1)) := by
  obtain ⟨h1, _, _, _, ⟨h3, _⟩ | ⟨e, p, _, _, h4, _⟩⟩ := yr_sg_l h h2
  · rw [← h3]; exact yr_s_nmk h1
  · exact pz_Fm_nmk h4
/-- the top of the stack and the depth -/
theorem yr_top0 (h : yr_sg T n o H L 0) : pz_dd T (o 1) = 0 ∧ ¬ pz_mk T (o 1) := by
  rcases h with ⟨a, _⟩ | h
  · omega
  · have h' := h
    obtain ⟨_, _, h1, _⟩ := h
    refine ⟨by rw [h1]; rfl, ?_⟩
    obtain ⟨h1, _, _, _, ⟨h3, _⟩ | ⟨e, p, _, _, h4, _⟩⟩ := h'
    · rw [← h3]; exact yr_s_nmk h1
    · exact pz_Fm_nmk h4
theorem yr_topq (h : yr_sg T n o H L k) (h2 : H k = -2) (hn : o (k + 1) ≤ n) (hP : pz_P T n < 2 ^ 31) : pz_mk T (o (k + 1)) := by
  obtain ⟨a, c, d⟩ := yr_sg_q h h2 hn hP
  rw [d]
  exact pz_mk_s.mpr c
theorem yr_topl (h : yr_sg T n o H L k) (h2 : H k ≠ -2) (hk : 1 ≤ k) : 1 ≤ pz_dd T (o (k + 1)) := by
  obtain ⟨h1, _, h3, _⟩ := yr_sg_l h h2
  have h0 : T (o k) = 0 := by omega
  rw [h3]
  unfold yr_s
  rw [if_neg (by omega), pz_dd_o h0]
  omega
/-- a ")" ends the list on top -/
theorem yr_close (h : yr_sg T n o H L k) (h2 : H k ≠ -2) (hk : 1 ≤ k) (ht : o (k + 1) = t) (h1 : T t = 1) : T (o k) = 0 ∧ o k + 1 < t + 1 ∧ T (t + 1 - 1) = 1 ∧ pz_dd T (t + 1) = pz_dd T (o k) ∧ ∀ j, o k < j → j < t + 1 → pz_dd T (o k) < pz_dd T j := by
  obtain ⟨a1, a2, a3, a4, _⟩ := yr_sg_l h h2
  have h0 : T (o k) = 0 := by omega
  have hs : yr_s o k = o k + 1 := by unfold yr_s; rw [if_neg (by omega)]
  rw [hs, ht] at a2 a4
  rw [hs, ht, pz_dd_o h0] at a3
  rw [pz_dd_o h0] at a4
  refine ⟨h0, by omega, by rw [Nat.add_sub_cancel]; exact h1, by rw [pz_dd_c h1]; omega, fun j c d => ?_⟩
  have := a4 j (by omega) (by omega)
  omega
theorem yr_clist (h : yr_sg T n o H L k) (h2 : H k ≠ -2) (ht : o (k + 1) = t) (hn : t < n) (h1 : T t = 1) : (H k = -1 ∧ cd_yl T n (yr_s o k) = zv_c 2 0) ∨ (H k = nI (pz_AY T n 0 (yr_s o k)) ∧ cd_yl T n (yr_s o k) = zv_c 3 (pz_AY T n 0 (yr_s o k)) ∧ pz_AY T n 0 (yr_s o k) < pz_P T t) := by
  obtain ⟨_, a2, _, _, ⟨h3, h4, _⟩ | ⟨e, p, h3, h4, _, _, _, h5, _⟩⟩ := yr_sg_l h h2
  · refine Or.inl ⟨h4, ?_⟩
    unfold cd_yl pz_lst
    rw [h3, ht, if_neg (fun z => z.2 h1)]
  · refine Or.inr ⟨h5, ?_, yr_lt h3 (by omega) (by omega)⟩
    have := pz_Fm_lt h3
    unfold cd_yl pz_lst
    rw [if_pos ⟨by omega, pz_Fm_n1 h3⟩]
/-- the stack when a form is put into the list on top -/
theorem yr_sg_low {o' : Nat → Nat} {H' L' : Nat → Int32} {i : Nat} (h : yr_sg T n o H L i) (e1 : o' i = o i) (e2 : o' (i + 1) = o (i + 1)) (e3 : H' i = H i) (e4 : L' i = L i) : yr_sg T n o' H' L' i := by
  have hs : yr_s o' i = yr_s o i := by unfold yr_s; rw [e1]
  unfold yr_sg at h ⊢
  rw [hs, e1, e2, e3, e4]
  exact h
theorem yr_sg_put {o' : Nat → Nat} {H' L' : Nat → Int32} (h : yr_sg T n o H L k) (h2 : H k ≠ -2) (hp : pz_Fm T (o (k + 1)) e) (hn : e ≤ n) (e1 : o' k = o k) (e2 : o' (k + 1) = e)
    (eL : L' k = nI (pz_AY T n 0 (o (k + 1)))) (eH : H' k = if L k = -1 then nI (pz_AY T n 0 (o (k + 1))) else H k) (hP : pz_P T n < 2 ^ 31) : yr_sg T n o' H' L' k := by
  have hs : yr_s o' k = yr_s o k := by unfold yr_s; rw [e1]
  have hm := yr_sg_nmk h h2
  obtain ⟨a1, a2, a3, a4, a5⟩ := yr_sg_l h h2
  have b1 := pz_Fm_lt hp
  have b2 := pz_Fm_dd hp
  have b3 := pz_Fm_ge hp
  right
  rw [hs, e1, e2]
  refine ⟨a1, by omega, by omega, fun j c d => ?_, Or.inr ?_⟩
  · by_cases z : j ≤ o (k + 1)
    · exact a4 j c z
    · have := b3 j (by omega) d
      omega
  · rcases a5 with ⟨c1, c2, c3⟩ | ⟨e', p, c1, c2, c3, c4, c5, c6, c7⟩
    · rw [c3, if_pos rfl] at eH
      exact ⟨e, o (k + 1), by rw [c1]; exact hp, Nat.le_refl _, hp, a2, hm, by rw [eH, c1], eL⟩
    · have hl := yr_lt c3 (n := n) (t := n) (by omega) (by omega)
      rw [c7, if_neg (yr_n2 (by omega)).2] at eH
      exact ⟨e', o (k + 1), c1, by omega, hp, a2, hm, by rw [eH, c6], eL⟩
end
end
section
/-! code by positions: lists and their lengths, heads, names -/
def pz_Ln (T : Nat → Nat) (n : Nat) : Nat → Nat → Prop
  | 0, p => ¬ (p < n ∧ T p ≠ 1)
  | k + 1, p => p < n ∧ T p ≠ 1 ∧ pz_Ln T n k (pz_nx T n p)
def ls_P (T : Nat → Nat) (n p : Nat) : Prop := p ≤ n ∧ pz_CL T p ∧ ¬ pz_mk T p
/-- the names of a lambda at p: c of them -/
def na_L (T : Nat → Nat) (p c : Nat) : Prop := T p = 0 ∧ c ≤ 4 ∧ (∀ i, i < c → 30 ≤ T (p + 1 + i) ∧ T (p + 1 + i) ≤ 39) ∧ T (p + 1 + c) = 1
/-- at most f names from q on, none twice, then the end of the list -/
def na_b (t : Nat) : Int32 := 1 <<< (nI (t - 30) &&& 31)
def na_W (T : Nat → Nat) : Nat → Nat → Int32 → Prop
  | 0, q, _ => T q = 1
  | f + 1, q, s => T q = 1 ∨ ((30 ≤ T q ∧ T q ≤ 39) ∧ (s &&& na_b (T q)) = 0 ∧ na_W T f (q + 1) (s ||| na_b (T q)))
theorem na_W_L {T : Nat → Nat} : ∀ f q s, na_W T f q s → ∃ c, c ≤ f ∧ (∀ i, i < c → 30 ≤ T (q + i) ∧ T (q + i) ≤ 39) ∧ T (q + c) = 1 := by
  intro f
  induction f with
  | zero => intro q s h; exact ⟨0, by omega, fun i hi => by omega, h⟩
  | succ f ih =>
    intro q s h
    rcases h with h | ⟨h1, _, h2⟩
    · exact ⟨0, by omega, fun i hi => by omega, h⟩
    · obtain ⟨c, a1, a2, a3⟩ := ih _ _ h2
      refine ⟨c + 1, by omega, fun i hi => ?_, by rw [show q + (c + 1) = q + 1 + c by omega]; exact a3⟩
      cases i with
      | zero => exact h1
      | succ i => rw [show q + (i + 1) = q + 1 + i by omega]; exact a2 i (by omega)
section
variable {T : Nat → Nat} {n p e j k py px np nc : Nat} {FY RY FX RX : Nat → Int64} {M : Nat → Nat → Prop}
theorem pz_D0n_e (h : pz_Fm T p e) (hd : ¬ pz_D0 T p) : ¬ pz_D0 T e := fun z => hd ⟨fun c => z.1 ((pz_CL_e h).mpr c), fun c => z.2 ((pz_QC_e h).mpr c)⟩
theorem pz_CL_nD0 (h : pz_CL T p) : ¬ pz_D0 T p := fun z => z.1 h
theorem pz_QC_nD0 (h : pz_QC T p) : ¬ pz_D0 T p := fun z => z.2 h
theorem pz_Ln_ex (hR : pz_Rd T n) : ∀ d p, n - p = d → p ≤ n → ∃ k, pz_Ln T n k p ∧ k ≤ d := by
  intro d
  induction d using Nat.strongRecOn with
  | ind d ih =>
    intro p hd hp
    by_cases c : p < n ∧ T p ≠ 1
    · obtain ⟨h1, h2⟩ := pz_nx_ok hR c.1 c.2
      have h3 := pz_Fm_lt h2
      obtain ⟨k, h4, h5⟩ := ih (n - pz_nx T n p) (by omega) _ rfl h1
      exact ⟨k + 1, ⟨c.1, c.2, h4⟩, by omega⟩
    · exact ⟨0, c, by omega⟩
theorem pz_Ln_u : ∀ k m p, pz_Ln T n k p → pz_Ln T n m p → k = m := by
  intro k
  induction k with
  | zero =>
    intro m p h1 h2
    cases m with
    | zero => rfl
    | succ m => exact absurd ⟨h2.1, h2.2.1⟩ h1
  | succ k ih =>
    intro m p h1 h2
    cases m with
    | zero => exact absurd ⟨h1.1, h1.2.1⟩ h2
    | succ m => rw [ih m _ h1.2.2 h2.2.2]
theorem cd_yl_p (h : p < n) (h1 : T p ≠ 1) : cd_yl T n p = zv_c 3 (pz_AY T n 0 p) := by
  unfold cd_yl pz_lst
  rw [if_pos ⟨h, h1⟩]
theorem cd_yl_e (h : ¬ (p < n ∧ T p ≠ 1)) : cd_yl T n p = zv_c 2 0 := by
  unfold cd_yl pz_lst
  rw [if_neg h]
theorem cd_xl_p (h : p < n) (h1 : T p ≠ 1) : cd_xl T n p = zv_c 2 (pz_AX T n 0 p) := by
  unfold cd_xl pz_lst
  rw [if_pos ⟨h, h1⟩]
theorem cd_xl_e (h : ¬ (p < n ∧ T p ≠ 1)) : cd_xl T n p = zv_c 3 0 := by
  unfold cd_xl pz_lst
  rw [if_neg h]
theorem cd_yv_0 (h : T j = 0) : cd_yv T n j = cd_yl T n (j + 1) := by
  unfold cd_yv pz_val
  rw [if_pos h]
  rfl
theorem cd_xv_0 (h : T j = 0) : cd_xv T n j = cd_xl T n (j + 1) := by
  unfold cd_xv pz_val
  rw [if_pos h]
  rfl
theorem cd_yv_2 (h : T j = 2) : cd_yv T n j = zv_c 3 (pz_AY T n 1 j) := by
  unfold cd_yv pz_val
  rw [if_neg (by omega), if_pos h]
theorem cd_xv_2 (h : T j = 2) : cd_xv T n j = zv_c 2 (pz_AX T n 1 j) := by
  unfold cd_xv pz_val
  rw [if_neg (by omega), if_pos h]
theorem cd_yv_a (h : 3 ≤ T j) : cd_yv T n j = zv_yA (T j) := by
  unfold cd_yv pz_val
  rw [if_neg (by omega), if_neg (by omega)]
theorem cd_xv_a (h : 3 ≤ T j) : cd_xv T n j = zv_xA (T j) := by
  unfold cd_xv pz_val
  rw [if_neg (by omega), if_neg (by omega)]
/-- a cell of code -/
theorem cd_cell (hc : cd_OK T n FY RY FX RX) (hb : ∀ r j, pz_Nd T n r j → pz_AY T n r j < py ∧ pz_AX T n r j < px) (hp : p < n) (h1 : T p ≠ 1) (hm : ¬ pz_mk T p) (hd : ¬ pz_D0 T p) :
    pz_AY T n 0 p < py ∧ pz_AX T n 0 p < px ∧ FY (pz_AY T n 0 p) = cd_yv T n p ∧ RY (pz_AY T n 0 p) = cd_yl T n (pz_nx T n p) ∧ FX (pz_AX T n 0 p) = cd_xv T n p ∧ RX (pz_AX T n 0 p) = cd_xl T n (pz_nx T n p) :=
  ⟨(hb 0 p ⟨hp, Or.inl ⟨rfl, h1, hm⟩⟩).1, (hb 0 p ⟨hp, Or.inl ⟨rfl, h1, hm⟩⟩).2, hc.1 p hp h1 hm hd⟩
theorem cd_chY (hR : pz_Rd T n) (hc : cd_OK T n FY RY FX RX) (hb : ∀ r j, pz_Nd T n r j → pz_AY T n r j < py ∧ pz_AX T n r j < px) : ∀ k p, pz_Ln T n k p → ¬ pz_mk T p → ¬ pz_D0 T p → ch_N RY (zv_c 3) (zv_c 2 0) py k (cd_yl T n p) := by
  intro k
  induction k with
  | zero => intro p h _ _; exact cd_yl_e h
  | succ k ih =>
    intro p ⟨h1, h2, h3⟩ h4 h5
    obtain ⟨a1, _, _, a4, _⟩ := cd_cell hc hb h1 h2 h4 h5
    obtain ⟨_, hF⟩ := pz_nx_ok hR h1 h2
    refine ⟨_, a1, cd_yl_p h1 h2, ?_⟩
    rw [a4]
    exact ih _ h3 (pz_Fm_nmk hF) (pz_D0n_e hF h5)
theorem cd_chX (hR : pz_Rd T n) (hc : cd_OK T n FY RY FX RX) (hb : ∀ r j, pz_Nd T n r j → pz_AY T n r j < py ∧ pz_AX T n r j < px) : ∀ k p, pz_Ln T n k p → ¬ pz_mk T p → ¬ pz_D0 T p → ch_N RX (zv_c 2) (zv_c 3 0) px k (cd_xl T n p) := by
  intro k
  induction k with
  | zero => intro p h _ _; exact cd_xl_e h
  | succ k ih =>
    intro p ⟨h1, h2, h3⟩ h4 h5
    obtain ⟨_, a1, _, _, _, a4⟩ := cd_cell hc hb h1 h2 h4 h5
    obtain ⟨_, hF⟩ := pz_nx_ok hR h1 h2
    refine ⟨_, a1, cd_xl_p h1 h2, ?_⟩
    rw [a4]
    exact ih _ h3 (pz_Fm_nmk hF) (pz_D0n_e hF h5)
theorem pz_nx_a (h : 3 ≤ T j) : pz_nx T n j = j + 1 := by
  unfold pz_nx
  rw [pz_bs_n (by omega), if_neg (by omega)]
theorem ls_nx (hR : pz_Rd T n) (h : ls_P T n p) (hp : p < n) (h1 : T p ≠ 1) : ls_P T n (pz_nx T n p) := by
  obtain ⟨a, hF⟩ := pz_nx_ok hR hp h1
  exact ⟨a, (pz_CL_e hF).mpr h.2.1, pz_Fm_nmk hF⟩
theorem ls_0 : ls_P T n 0 := ⟨by omega, pz_CL_0, pz_mk_0⟩
/-- inside the "(" of a code form -/
theorem cd_in (hR : pz_Rd T n) (hj : j < n) (h0 : T j = 0) (hc : pz_CF T j) : j + 1 < n ∧ ¬ pz_mk T (j + 1) ∧ ¬ pz_D0 T (j + 1) ∧ (T (j + 1) ≠ 40 → ls_P T n (j + 1)) ∧ (T (j + 1) = 40 → pz_QC T (j + 1)) := by
  obtain ⟨c, h1, h2, h3, _⟩ := xr_nx hR hj h0
  have hm : ¬ pz_mk T (j + 1) := fun z => by have := pz_mk_s.mp z; omega
  refine ⟨by omega, hm, ?_, fun z => ⟨by omega, pz_CL_o h0 hc z, hm⟩, fun z => pz_QC_o h0 hc z⟩
  by_cases z : T (j + 1) = 40
  · exact pz_QC_nD0 (pz_QC_o h0 hc z)
  · exact pz_CL_nD0 (pz_CL_o h0 hc z)
theorem ls_CF (h : ls_P T n p) : pz_CF T p := ⟨h.2.2, h.2.1⟩
end
end
section
/-! the relation of both sides in a run -/
def en_R (pl : Nat) (y x : Int32) : Prop := (y = -1 ∧ x = 0) ∨ ∃ e, e < pl ∧ y = nI e ∧ x = nI (e + 10)
def fm_N (nf : Nat) (f : Int32) : Prop := f = -1 ∨ ∃ m, m < nf ∧ f = nI m
def so_R (G : Nat → Nat) (fo : Nat) (y : Int32) (x : Int64) : Prop := (y = -1 ∧ x = zv_c 3 0) ∨ ∃ m, m < fo ∧ y = nI m ∧ x = zv_c 2 (G m)
def fd_OK (T : Nat → Nat) (n : Nat) (M : Nat → Nat → Prop) (np nc : Nat) (G : Nat → Nat) (fo px : Nat) (FX RX fnd : Nat → Int64) (fnx : Nat → Int32) : Prop :=
  ∀ k, k < fo → G k < px ∧ (∀ p, ¬ M p (G k)) ∧ (∀ r j, pz_Nd T n r j → G k ≠ pz_AX T n r j) ∧ zv_V M np nc (fnd k) (FX (G k)) ∧ so_R G k (fnx k) (RX (G k))
def fr_OK (T : Nat → Nat) (n : Nat) (G : Nat → Nat) (nf fo pl : Nat) (wh : Nat → Int32) (wi : Nat → Int64) (we so af tk : Nat → Int32) (fm vl : Nat → Int64) (pc nx : Nat → Int32) : Prop :=
  ∀ i, i < nf → en_R pl (we i) (pc i) ∧ fm_N i (af i) ∧ nx i = af i ∧
    ((∃ w p, w < 2 ∧ wh i = nI w ∧ tk i = nI w ∧ ls_P T n p ∧ p < n ∧ T p ≠ 1 ∧ wi i = cd_yl T n p ∧ fm i = cd_xl T n p) ∨
     (∃ w k, 2 ≤ w ∧ w < 4 ∧ wh i = nI w ∧ tk i = nI w ∧ 30 ≤ k ∧ k ≤ 39 ∧ wi i = zv_c 4 k ∧ fm i = zv_c 1 k) ∨
     (∃ p, wh i = 4 ∧ tk i = 4 ∧ ls_P T n p ∧ wi i = cd_yl T n p ∧ fm i = cd_xl T n p ∧ so_R G fo (so i) (vl i)))
def pl_OK (M : Nat → Nat → Prop) (np nc pl : Nat) (gl : Nat → Int64) (pn : Nat → Int32) (pv : Nat → Int64) (pe xn : Nat → Int32) (xv : Nat → Int64) (xo : Nat → Int32) : Prop :=
  (∀ k, k < 10 → (gl k = zv_c 9 0 ∧ xv k = -1) ∨ zv_V M np nc (gl k) (xv k)) ∧
  (∀ e, e < pl → (∃ k, 30 ≤ k ∧ k ≤ 39 ∧ pn e = nI k) ∧ xn (e + 10) = pn e ∧ zv_V M np nc (pv e) (xv (e + 10)) ∧ en_R e (pe e) (xo (e + 10)))
def pc_OK (T : Nat → Nat) (n pl np : Nat) (pf : Nat → Int64) (pp : Nat → Int32) (xp : Nat → Int64) (xq : Nat → Int32) : Prop :=
  ∀ i, i < np → en_R pl (pp i) (xq i) ∧ ∃ p c, ls_P T n p ∧ p < n ∧ pf i = cd_yl T n p ∧ xp i = cd_xl T n p ∧ na_L T p c ∧ pz_nx T n p < n ∧ T (pz_nx T n p) ≠ 1
def ct_OK (nc nf : Nat) (cy cx : Nat → Int32) : Prop := ∀ i, i < nc → cx i = cy i ∧ fm_N nf (cy i)
def tx_R (T : Nat → Nat) (n : Nat) (u : SX) (v : SY) : Prop := match u, v with
  | (x_textLength, x_pairCount, x_placeCount, x_procedureCount, x_continuationCount, x_frameCount, x_state, x_ending, x_form, x_environment, x_frame, x_value, x_applied, x_argumentCount, x_countedCount, x_consCount, x_entryCount, x_outputCount, x_itemCount, x_text, x_firsts, x_rests, x_placeNames, x_placeValues, x_placeOuters, x_procedureParts, x_procedurePlaces, x_continuationFrames, x_frameTasks, x_frameForms, x_frameValues, x_framePlaces, x_frameNexts, x_arguments, x_outputs, x_itemKinds, x_itemNumbers, x_openLists), (y_size, y_pairs, y_open, y_formCount, y_places, y_procedures, y_continuationCount, y_things, y_foundCount, y_argumentCount, y_value, y_form, y_wherein, y_next, y_working, y_ending, y_counts, y_made, y_entered, y_printCount, y_itemCount, y_text, y_firsts, y_rests, y_heads, y_lasts, y_globals, y_placeNames, y_placeValues, y_placeNexts, y_procedureForms, y_procedurePlaces, y_continuations, y_whats, y_withs, y_whereins, y_soFars, y_afters, y_found, y_foundNexts, y_arguments, y_prints, y_itemKinds, y_itemNumbers, y_pile) => n ≤ 70 ∧ (∀ i, i < n → zv_tk (T i)) ∧ x_textLength = nI n ∧ y_size = nI n ∧ ∀ i, i < n → x_text i = nI (T i) ∧ y_text i = nI (T i)
def sm_R (T : Nat → Nat) (n : Nat) (M : Nat → Nat → Prop) (G : Nat → Nat) (px py pl np nc nf fo co cn et pc : Nat) (u : SX) (v : SY) : Prop := match u, v with
  | (x_textLength, x_pairCount, x_placeCount, x_procedureCount, x_continuationCount, x_frameCount, x_state, x_ending, x_form, x_environment, x_frame, x_value, x_applied, x_argumentCount, x_countedCount, x_consCount, x_entryCount, x_outputCount, x_itemCount, x_text, x_firsts, x_rests, x_placeNames, x_placeValues, x_placeOuters, x_procedureParts, x_procedurePlaces, x_continuationFrames, x_frameTasks, x_frameForms, x_frameValues, x_framePlaces, x_frameNexts, x_arguments, x_outputs, x_itemKinds, x_itemNumbers, x_openLists), (y_size, y_pairs, y_open, y_formCount, y_places, y_procedures, y_continuationCount, y_things, y_foundCount, y_argumentCount, y_value, y_form, y_wherein, y_next, y_working, y_ending, y_counts, y_made, y_entered, y_printCount, y_itemCount, y_text, y_firsts, y_rests, y_heads, y_lasts, y_globals, y_placeNames, y_placeValues, y_placeNexts, y_procedureForms, y_procedurePlaces, y_continuations, y_whats, y_withs, y_whereins, y_soFars, y_afters, y_found, y_foundNexts, y_arguments, y_prints, y_itemKinds, y_itemNumbers, y_pile) =>
    (pz_Rd T n ∧ n ≤ 70 ∧ (∀ i, i < n → zv_tk (T i)) ∧ ∀ i, i < n → x_text i = nI (T i) ∧ y_text i = nI (T i)) ∧
    (x_textLength = nI n ∧ x_pairCount = nI px ∧ x_placeCount = nI (pl + 10) ∧ x_procedureCount = nI np ∧ x_continuationCount = nI nc ∧ x_frameCount = nI nf ∧ x_countedCount = nI co ∧ x_consCount = nI cn ∧ x_entryCount = nI et ∧ x_outputCount = nI pc ∧ x_itemCount = -1000000003) ∧
    (y_size = nI n ∧ y_pairs = nI py ∧ y_places = nI pl ∧ y_procedures = nI np ∧ y_continuationCount = nI nc ∧ y_things = nI nf ∧ y_foundCount = nI fo ∧ y_counts = nI co ∧ y_made = nI cn ∧ y_entered = nI et ∧ y_printCount = nI pc) ∧
    (co ≤ 600 ∧ px ≤ 140 + cn + fo ∧ py ≤ 140 + cn ∧ cn ≤ co ∧ np ≤ co ∧ nc ≤ co ∧ pl ≤ 4 * co ∧ pc ≤ 20) ∧
    cd_OK T n y_firsts y_rests x_firsts x_rests ∧
    (hp_OK T n M np nc py px y_firsts y_rests x_firsts x_rests ∧ ∀ p q, cd_M T n p q → M p q) ∧
    fd_OK T n M np nc G fo px x_firsts x_rests y_found y_foundNexts ∧
    fr_OK T n G nf fo pl y_whats y_withs y_whereins y_soFars y_afters x_frameTasks x_frameForms x_frameValues x_framePlaces x_frameNexts ∧
    pl_OK M np nc pl y_globals y_placeNames y_placeValues y_placeNexts x_placeNames x_placeValues x_placeOuters ∧
    pc_OK T n pl np y_procedureForms y_procedurePlaces x_procedureParts x_procedurePlaces ∧
    ct_OK nc nf y_continuations x_continuationFrames ∧
    (∀ i, i < pc → x_outputs i = y_prints i)
end
section
/-! what the parts of the relation keep -/
section
variable {T : Nat → Nat} {n np nc np' nc' py px pl pl' nf nf' fo fo' : Nat} {M M' : Nat → Nat → Prop} {G G' : Nat → Nat} {FY RY FX RX fnd gl pv xv pf xp : Nat → Int64} {fnx pn pe xn xo pp xq cy cx : Nat → Int32}
variable {wh we so af tk pc nx : Nat → Int32} {wi fm vl : Nat → Int64}
theorem en_mono {y x : Int32} (h : pl ≤ pl') (a : en_R pl y x) : en_R pl' y x := by
  rcases a with a | ⟨e, a, c⟩
  · exact Or.inl a
  · exact Or.inr ⟨e, by omega, c⟩
theorem fm_mono {f : Int32} (h : nf ≤ nf') (a : fm_N nf f) : fm_N nf' f := by
  rcases a with a | ⟨e, a, c⟩
  · exact Or.inl a
  · exact Or.inr ⟨e, by omega, c⟩
theorem so_mono {y : Int32} {x : Int64} (h : fo ≤ fo') (hG : ∀ k, k < fo → G' k = G k) (a : so_R G fo y x) : so_R G' fo' y x := by
  rcases a with a | ⟨e, a, c, d⟩
  · exact Or.inl a
  · exact Or.inr ⟨e, by omega, c, by rw [hG e a]; exact d⟩
theorem ct_mono (h : nf ≤ nf') (a : ct_OK nc nf cy cx) : ct_OK nc nf' cy cx := fun i hi => ⟨(a i hi).1, fm_mono h (a i hi).2⟩
theorem ct_push {f : Int32} (a : ct_OK nc nf cy cx) (h : fm_N nf f) : ct_OK (nc + 1) nf (upd cy nc f) (upd cx nc f) := by
  intro i hi
  by_cases z : i = nc
  · subst z
    rw [pk_us, pk_us]
    exact ⟨rfl, h⟩
  · rw [pk_un z, pk_un z]
    exact a i (by omega)
theorem pc_mono (h : pl ≤ pl') (a : pc_OK T n pl np pf pp xp xq) : pc_OK T n pl' np pf pp xp xq := fun i hi => ⟨en_mono h (a i hi).1, (a i hi).2⟩
theorem pc_push {p c : Nat} {y x : Int32} (a : pc_OK T n pl np pf pp xp xq) (he : en_R pl y x) (h1 : ls_P T n p) (h2 : p < n) (h3 : na_L T p c) (h4 : pz_nx T n p < n) (h5 : T (pz_nx T n p) ≠ 1) :
    pc_OK T n pl (np + 1) (vp_updL pf np (cd_yl T n p)) (upd pp np y) (vp_updL xp np (cd_xl T n p)) (upd xq np x) := by
  intro i hi
  by_cases z : i = np
  · subst z
    rw [pk_us, pk_us, pk_uLs, pk_uLs]
    exact ⟨he, p, c, h1, h2, rfl, rfl, h3, h4, h5⟩
  · rw [pk_un z, pk_un z, pk_uLn z, pk_uLn z]
    exact a i (by omega)
theorem pl_mono (hM : ∀ p q, M p q → M' p q) (h1 : np ≤ np') (h2 : nc ≤ nc') (a : pl_OK M np nc pl gl pn pv pe xn xv xo) : pl_OK M' np' nc' pl gl pn pv pe xn xv xo := by
  refine ⟨fun k hk => ?_, fun e he => ?_⟩
  · rcases a.1 k hk with h | h
    · exact Or.inl h
    · exact Or.inr (zv_V_mono hM h1 h2 h)
  · obtain ⟨b1, b2, b3, b4⟩ := a.2 e he
    exact ⟨b1, b2, zv_V_mono hM h1 h2 b3, b4⟩
theorem pl_new {k : Nat} {y x : Int64} {ey ex : Int32} (a : pl_OK M np nc pl gl pn pv pe xn xv xo) (h1 : 30 ≤ k) (h2 : k ≤ 39) (hV : zv_V M np nc y x) (he : en_R pl ey ex) :
    pl_OK M np nc (pl + 1) gl (upd pn pl (nI k)) (vp_updL pv pl y) (upd pe pl ey) (upd xn (pl + 10) (nI k)) (vp_updL xv (pl + 10) x) (upd xo (pl + 10) ex) := by
  refine ⟨fun k hk => ?_, fun e h => ?_⟩
  · rw [pk_uLn (by omega)]
    exact a.1 k hk
  · by_cases z : e = pl
    · subst z
      rw [pk_us, pk_us, pk_us, pk_us, pk_uLs, pk_uLs]
      exact ⟨⟨k, h1, h2, rfl⟩, rfl, hV, he⟩
    · rw [pk_un z, pk_un z, pk_uLn z, pk_un (by omega), pk_un (by omega), pk_uLn (by omega)]
      exact a.2 e (by omega)
theorem pl_glob {k : Nat} {y x : Int64} (a : pl_OK M np nc pl gl pn pv pe xn xv xo) (hk : k < 10) (hV : zv_V M np nc y x) :
    pl_OK M np nc pl (vp_updL gl k y) pn pv pe xn (vp_updL xv k x) xo := by
  refine ⟨fun i hi => ?_, fun e h => ?_⟩
  · by_cases z : i = k
    · subst z
      rw [pk_uLs, pk_uLs]
      exact Or.inr hV
    · rw [pk_uLn z, pk_uLn z]
      exact a.1 i hi
  · rw [pk_uLn (by omega)]
    exact a.2 e h
theorem pl_loc {k : Nat} {y x : Int64} (a : pl_OK M np nc pl gl pn pv pe xn xv xo) (hV : zv_V M np nc y x) :
    pl_OK M np nc pl gl pn (vp_updL pv k y) pe xn (vp_updL xv (k + 10) x) xo := by
  refine ⟨fun i hi => ?_, fun e h => ?_⟩
  · rw [pk_uLn (by omega)]
    exact a.1 i hi
  · by_cases z : e = k
    · subst z
      rw [pk_uLs, pk_uLs]
      obtain ⟨b1, b2, b3, b4⟩ := a.2 e h
      exact ⟨b1, b2, hV, b4⟩
    · rw [pk_uLn z, pk_uLn (by omega)]
      exact a.2 e h
theorem fr_mono (h1 : fo ≤ fo') (hG : ∀ k, k < fo → G' k = G k) (h2 : pl ≤ pl') (a : fr_OK T n G nf fo pl wh wi we so af tk fm vl pc nx) : fr_OK T n G' nf fo' pl' wh wi we so af tk fm vl pc nx := by
  intro i hi
  obtain ⟨b1, b2, b3, b4⟩ := a i hi
  refine ⟨en_mono h2 b1, b2, b3, ?_⟩
  rcases b4 with c | c | ⟨p, c1, c2, c3, c4, c5, c6⟩
  · exact Or.inl c
  · exact Or.inr (Or.inl c)
  · exact Or.inr (Or.inr ⟨p, c1, c2, c3, c4, c5, so_mono h1 hG c6⟩)
/-- a new frame -/
theorem fr_push {w f : Int32} {fy fx : Int64} {ey ex sy : Int32} {sx : Int64} (a : fr_OK T n G nf fo pl wh wi we so af tk fm vl pc nx) (he : en_R pl ey ex) (hf : fm_N nf f)
    (h : (∃ z p, z < 2 ∧ w = nI z ∧ ls_P T n p ∧ p < n ∧ T p ≠ 1 ∧ fy = cd_yl T n p ∧ fx = cd_xl T n p) ∨
      (∃ z k, 2 ≤ z ∧ z < 4 ∧ w = nI z ∧ 30 ≤ k ∧ k ≤ 39 ∧ fy = zv_c 4 k ∧ fx = zv_c 1 k) ∨
      (∃ p, w = 4 ∧ ls_P T n p ∧ fy = cd_yl T n p ∧ fx = cd_xl T n p ∧ so_R G fo sy sx)) :
    fr_OK T n G (nf + 1) fo pl (upd wh nf w) (vp_updL wi nf fy) (upd we nf ey) (upd so nf sy) (upd af nf f) (upd tk nf w) (vp_updL fm nf fx) (vp_updL vl nf sx) (upd pc nf ex) (upd nx nf f) := by
  intro i hi
  by_cases z : i = nf
  · subst z
    rw [pk_us, pk_us, pk_us, pk_us, pk_us, pk_us, pk_us, pk_uLs, pk_uLs, pk_uLs]
    refine ⟨he, hf, rfl, ?_⟩
    rcases h with ⟨z, p, c1, c2, c3⟩ | ⟨z, k, c1, c2, c3, c4⟩ | ⟨p, c1, c2⟩
    · exact Or.inl ⟨z, p, c1, c2, c2, c3⟩
    · exact Or.inr (Or.inl ⟨z, k, c1, c2, c3, c3, c4⟩)
    · exact Or.inr (Or.inr ⟨p, c1, c1, c2⟩)
  · rw [pk_un z, pk_un z, pk_un z, pk_un z, pk_un z, pk_un z, pk_un z, pk_uLn z, pk_uLn z, pk_uLn z]
    exact a i (by omega)
theorem fd_mono (hM : ∀ p q, M p q → M' p q) (hM' : ∀ p q, M' p q → M p q ∨ q = px) (h1 : np ≤ np') (h2 : nc ≤ nc') (a : fd_OK T n M np nc G fo px FX RX fnd fnx) : fd_OK T n M' np' nc' G fo px FX RX fnd fnx := by
  intro k hk
  obtain ⟨b1, b2, b3, b4, b5⟩ := a k hk
  refine ⟨b1, fun p z => ?_, b3, zv_V_mono hM h1 h2 b4, b5⟩
  rcases hM' p _ z with c | c
  · exact b2 p c
  · omega
/-- X's new pair at px -/
theorem fd_up {a' b' : Int64} {px' : Nat} (h : px ≤ px') (a : fd_OK T n M np nc G fo px FX RX fnd fnx) : fd_OK T n M np nc G fo px' (vp_updL FX px a') (vp_updL RX px b') fnd fnx := by
  intro k hk
  obtain ⟨b1, b2, b3, b4, b5⟩ := a k hk
  rw [pk_uLn (by omega), pk_uLn (by omega)]
  exact ⟨by omega, b2, b3, b4, b5⟩
theorem fd_push {y x : Int64} {sy : Int32} {sx : Int64} (hp : hp_OK T n M np nc py px FY RY FX RX) (a : fd_OK T n M np nc G fo px FX RX fnd fnx) (hV : zv_V M np nc y x) (hs : so_R G fo sy sx) :
    fd_OK T n M np nc (fun k => if k = fo then px else G k) (fo + 1) (px + 1) (vp_updL FX px x) (vp_updL RX px sx) (vp_updL fnd fo y) (upd fnx fo sy) := by
  intro k hk
  by_cases z : k = fo
  · subst z
    have e : (fun i => if i = k then px else G i) k = px := if_pos rfl
    rw [e, pk_uLs, pk_uLs, pk_uLs, pk_us]
    refine ⟨by omega, fun p z => ?_, fun r j h z => ?_, hV, so_mono (Nat.le_refl _) (fun i hi => if_neg (by omega)) hs⟩
    · have := (hp.1 _ _ z).2; omega
    · have := (hp.2.2.2.2.2 r j h).2; omega
  · obtain ⟨b1, b2, b3, b4, b5⟩ := a k (by omega)
    have e : (fun i => if i = fo then px else G i) k = G k := if_neg z
    rw [e, pk_uLn z, pk_uLn (by omega), pk_uLn (by omega), pk_un z]
    exact ⟨by omega, b2, b3, b4, so_mono (Nat.le_refl _) (fun i hi => if_neg (by omega)) b5⟩
theorem hp_mono (h1 : np ≤ np') (h2 : nc ≤ nc') (a : hp_OK T n M np nc py px FY RY FX RX) : hp_OK T n M np' nc' py px FY RY FX RX := by
  obtain ⟨b1, b2, b3, b4, b5, b6⟩ := a
  exact ⟨b1, b2, b3, fun p q h => ⟨zv_V_mono (fun _ _ h => h) h1 h2 (b4 p q h).1, zv_V_mono (fun _ _ h => h) h1 h2 (b4 p q h).2⟩, b5, b6⟩
/-- a pair of X's own -/
theorem hp_own {a' b' : Int64} (a : hp_OK T n M np nc py px FY RY FX RX) : hp_OK T n M np nc py (px + 1) FY RY (vp_updL FX px a') (vp_updL RX px b') := by
  obtain ⟨b1, b2, b3, b4, b5, b6⟩ := a
  refine ⟨fun p q h => ?_, b2, b3, fun p q h => ?_, b5, fun r j h => ?_⟩
  · have := b1 p q h; omega
  · have := b1 p q h
    rw [pk_uLn (by omega), pk_uLn (by omega)]
    exact b4 p q h
  · have := b6 r j h; omega
theorem cd_own {a' b' : Int64} (hp : hp_OK T n M np nc py px FY RY FX RX) (a : cd_OK T n FY RY FX RX) : cd_OK T n FY RY (vp_updL FX px a') (vp_updL RX px b') := by
  refine ⟨fun p h1 h2 h3 h4 => ?_, fun j h1 h2 h3 => ?_⟩
  · have := (hp.2.2.2.2.2 0 p ⟨h1, Or.inl ⟨rfl, h2, h3⟩⟩).2
    rw [pk_uLn (by omega), pk_uLn (by omega)]
    exact a.1 p h1 h2 h3 h4
  · have := (hp.2.2.2.2.2 1 j ⟨h1, Or.inr ⟨Or.inl rfl, h2⟩⟩).2
    have := (hp.2.2.2.2.2 2 j ⟨h1, Or.inr ⟨Or.inr rfl, h2⟩⟩).2
    rw [pk_uLn (by omega), pk_uLn (by omega), pk_uLn (by omega), pk_uLn (by omega)]
    exact a.2 j h1 h2 h3
theorem cd_ownY {a' b' : Int64} (hp : hp_OK T n M np nc py px FY RY FX RX) (a : cd_OK T n FY RY FX RX) : cd_OK T n (vp_updL FY py a') (vp_updL RY py b') FX RX := by
  refine ⟨fun p h1 h2 h3 h4 => ?_, fun j h1 h2 h3 => ?_⟩
  · have := (hp.2.2.2.2.2 0 p ⟨h1, Or.inl ⟨rfl, h2, h3⟩⟩).1
    rw [pk_uLn (by omega), pk_uLn (by omega)]
    exact a.1 p h1 h2 h3 h4
  · have := (hp.2.2.2.2.2 1 j ⟨h1, Or.inr ⟨Or.inl rfl, h2⟩⟩).1
    have := (hp.2.2.2.2.2 2 j ⟨h1, Or.inr ⟨Or.inr rfl, h2⟩⟩).1
    rw [pk_uLn (by omega), pk_uLn (by omega), pk_uLn (by omega), pk_uLn (by omega)]
    exact a.2 j h1 h2 h3
theorem cd_own' {a b a' b' : Int64} (hp : hp_OK T n M np nc py px FY RY FX RX) (h : cd_OK T n FY RY FX RX) : cd_OK T n (vp_updL FY py a) (vp_updL RY py b) (vp_updL FX px a') (vp_updL RX px b') := by
  refine ⟨fun p h1 h2 h3 h4 => ?_, fun j h1 h2 h3 => ?_⟩
  · have := hp.2.2.2.2.2 0 p ⟨h1, Or.inl ⟨rfl, h2, h3⟩⟩
    rw [pk_uLn (by omega), pk_uLn (by omega), pk_uLn (by omega), pk_uLn (by omega)]
    exact h.1 p h1 h2 h3 h4
  · have := hp.2.2.2.2.2 1 j ⟨h1, Or.inr ⟨Or.inl rfl, h2⟩⟩
    have := hp.2.2.2.2.2 2 j ⟨h1, Or.inr ⟨Or.inr rfl, h2⟩⟩
    rw [pk_uLn (by omega), pk_uLn (by omega), pk_uLn (by omega), pk_uLn (by omega), pk_uLn (by omega), pk_uLn (by omega), pk_uLn (by omega), pk_uLn (by omega)]
    exact h.2 j h1 h2 h3
def hp_M (M : Nat → Nat → Prop) (py px p q : Nat) : Prop := M p q ∨ (p = py ∧ q = px)
/-- cons -/
theorem hp_cons {a b a' b' : Int64} (h : hp_OK T n M np nc py px FY RY FX RX) (hV : zv_V M np nc a a') (hW : zv_V M np nc b b') :
    hp_OK T n (hp_M M py px) np nc (py + 1) (px + 1) (vp_updL FY py a) (vp_updL RY py b) (vp_updL FX px a') (vp_updL RX px b') := by
  obtain ⟨b1, b2, b3, b4, b5, b6⟩ := h
  have hm : ∀ p q, M p q → hp_M M py px p q := fun p q h => Or.inl h
  refine ⟨fun p q h => ?_, fun p q q' h h' => ?_, fun p p' q h h' => ?_, fun p q h => ?_, fun r j h h' => ⟨fun q z => ?_, fun p z => ?_⟩, fun r j h => ?_⟩
  · rcases h with h | h
    · have := b1 p q h; omega
    · omega
  · rcases h with h | h
    · rcases h' with h' | h'
      · exact b2 p q q' h h'
      · have := b1 p q h; omega
    · rcases h' with h' | h'
      · have := b1 p q' h'; omega
      · omega
  · rcases h with h | h
    · rcases h' with h' | h'
      · exact b3 p p' q h h'
      · have := b1 p q h; omega
    · rcases h' with h' | h'
      · have := b1 p' q h'; omega
      · omega
  · rcases h with h | ⟨rfl, rfl⟩
    · have := b1 p q h
      rw [pk_uLn (by omega), pk_uLn (by omega), pk_uLn (by omega), pk_uLn (by omega)]
      exact ⟨zv_V_mono hm (Nat.le_refl _) (Nat.le_refl _) (b4 p q h).1, zv_V_mono hm (Nat.le_refl _) (Nat.le_refl _) (b4 p q h).2⟩
    · rw [pk_uLs, pk_uLs, pk_uLs, pk_uLs]
      exact ⟨zv_V_mono hm (Nat.le_refl _) (Nat.le_refl _) hV, zv_V_mono hm (Nat.le_refl _) (Nat.le_refl _) hW⟩
  · rcases z with z | z
    · exact (b5 r j h h').1 q z
    · have := b6 r j h; omega
  · rcases z with z | z
    · exact (b5 r j h h').2 p z
    · have := b6 r j h; omega
  · have := b6 r j h; omega
/-- setcar, setcdr: any change of a pair of data -/
theorem hp_set {p q : Nat} {a b a' b' : Int64} (h : hp_OK T n M np nc py px FY RY FX RX) (hM : M p q) (hV : zv_V M np nc a a') (hW : zv_V M np nc b b') :
    hp_OK T n M np nc py px (vp_updL FY p a) (vp_updL RY p b) (vp_updL FX q a') (vp_updL RX q b') := by
  obtain ⟨b1, b2, b3, b4, b5, b6⟩ := h
  refine ⟨b1, b2, b3, fun p' q' h => ?_, b5, b6⟩
  by_cases z : p' = p
  · subst z
    have := b2 _ _ _ hM h
    subst this
    rw [pk_uLs, pk_uLs, pk_uLs, pk_uLs]
    exact ⟨hV, hW⟩
  · have z' : q' ≠ q := fun w => z (b3 _ _ _ h (w ▸ hM))
    rw [pk_uLn z, pk_uLn z, pk_uLn z', pk_uLn z']
    exact b4 p' q' h
theorem cd_set {p q : Nat} {a b a' b' : Int64} (hp : hp_OK T n M np nc py px FY RY FX RX) (hM : M p q) (h : cd_OK T n FY RY FX RX) :
    cd_OK T n (vp_updL FY p a) (vp_updL RY p b) (vp_updL FX q a') (vp_updL RX q b') := by
  have key : ∀ r j, pz_Nd T n r j → ¬ pz_Dn T n r j → pz_AY T n r j ≠ p ∧ pz_AX T n r j ≠ q := by
    intro r j h1 h2
    obtain ⟨c1, c2⟩ := hp.2.2.2.2.1 r j h1 h2
    exact ⟨fun z => c1 q (z ▸ hM), fun z => c2 p (z ▸ hM)⟩
  refine ⟨fun i h1 h2 h3 h4 => ?_, fun j h1 h2 h3 => ?_⟩
  · obtain ⟨c1, c2⟩ := key 0 i ⟨h1, Or.inl ⟨rfl, h2, h3⟩⟩ (fun z => h4 (z.2.1 rfl))
    rw [pk_uLn c1, pk_uLn c1, pk_uLn c2, pk_uLn c2]
    exact h.1 i h1 h2 h3 h4
  · obtain ⟨c1, c2⟩ := key 1 j ⟨h1, Or.inr ⟨Or.inl rfl, h2⟩⟩ (fun z => z.2.2 (by omega) h3)
    obtain ⟨c3, c4⟩ := key 2 j ⟨h1, Or.inr ⟨Or.inr rfl, h2⟩⟩ (fun z => z.2.2 (by omega) h3)
    rw [pk_uLn c1, pk_uLn c1, pk_uLn c2, pk_uLn c2, pk_uLn c3, pk_uLn c3, pk_uLn c4, pk_uLn c4]
    exact h.2 j h1 h2 h3
theorem fd_set {p q : Nat} {a' b' : Int64} (hM : M p q) (a : fd_OK T n M np nc G fo px FX RX fnd fnx) : fd_OK T n M np nc G fo px (vp_updL FX q a') (vp_updL RX q b') fnd fnx := by
  intro k hk
  obtain ⟨b1, b2, b3, b4, b5⟩ := a k hk
  have z : G k ≠ q := fun z => b2 p (z ▸ hM)
  rw [pk_uLn z, pk_uLn z]
  exact ⟨b1, b2, b3, b4, b5⟩
end
end
section
/-! what a form of code can be -/
section
variable {T : Nat → Nat} {n p e j k py px np nc : Nat} {FY RY FX RX : Nat → Int64} {M : Nat → Nat → Prop}
theorem cd_atom {t : Nat} (h : zv_tk t) (h3 : 3 ≤ t) : (∃ a s k, k < 4294967296 ∧ ((a = 0 ∧ s = 0) ∨ (a = 1 ∧ s = 4 ∧ k < 2)) ∧ t < 30 ∧ zv_yA t = zv_c a k ∧ zv_xA t = zv_c s k) ∨ (30 ≤ t ∧ zv_yA t = zv_c 4 t ∧ zv_xA t = zv_c 1 t) := by
  unfold zv_yA zv_xA
  unfold zv_tk at h
  by_cases c : t < 10
  · rw [if_pos c, if_pos c]
    refine Or.inl ⟨1, 4, _, ?_, Or.inr ⟨rfl, rfl, ?_⟩, by omega, rfl, rfl⟩ <;> split <;> omega
  · rw [if_neg c, if_neg c]
    by_cases d : t < 30
    · rw [if_pos d, if_pos d]
      exact Or.inl ⟨0, 0, _, by omega, Or.inl ⟨rfl, rfl⟩, d, rfl, rfl⟩
    · rw [if_neg d, if_neg d]
      exact Or.inr ⟨by omega, rfl, rfl⟩
theorem cd_cases (hR : pz_Rd T n) (hn : n ≤ 70) (hT : ∀ i, i < n → zv_tk (T i)) (hc : cd_OK T n FY RY FX RX) (hp : hp_OK T n M np nc py px FY RY FX RX) (hM : ∀ p q, cd_M T n p q → M p q)
    (hj : j < n) (h1 : T j ≠ 1) (hC : pz_CF T j) :
    (∃ t s k, k < 4294967296 ∧ ((t = 0 ∧ s = 0) ∨ (t = 1 ∧ s = 4 ∧ k < 2)) ∧ cd_yv T n j = zv_c t k ∧ cd_xv T n j = zv_c s k) ∨
    (∃ k, 30 ≤ k ∧ k ≤ 39 ∧ cd_yv T n j = zv_c 4 k ∧ cd_xv T n j = zv_c 1 k) ∨
    (∃ k, 50 ≤ k ∧ k ≤ 64 ∧ cd_yv T n j = zv_c 4 k ∧ cd_xv T n j = zv_c 1 k) ∨
    ((cd_yv T n j = zv_c 2 0 ∧ cd_xv T n j = zv_c 3 0) ∨ ∃ k, 40 ≤ k ∧ k ≤ 45 ∧ cd_yv T n j = zv_c 4 k ∧ cd_xv T n j = zv_c 1 k) ∨
    (∃ a b h, a < py ∧ b < px ∧ cd_yv T n j = zv_c 3 a ∧ cd_xv T n j = zv_c 2 b ∧ h < n ∧ T h ≠ 1 ∧ pz_CF T h ∧ FY a = cd_yv T n h ∧ FX b = cd_xv T n h ∧ RY a = cd_yl T n (pz_nx T n h) ∧ RX b = cd_xl T n (pz_nx T n h) ∧ ls_P T n (pz_nx T n h) ∧ ¬ (40 ≤ T h ∧ T h ≤ 45)) ∨
    (∃ a b w, a < py ∧ b < px ∧ cd_yv T n j = zv_c 3 a ∧ cd_xv T n j = zv_c 2 b ∧ FY a = zv_c 4 w ∧ FX b = zv_c 1 w ∧
      ((w = 40 ∧ ∃ k, ch_N RY (zv_c 3) (zv_c 2 0) py k (RY a) ∧ ch_N RX (zv_c 2) (zv_c 3 0) px k (RX b) ∧ (k = 1 → ∃ a' b', a' < py ∧ b' < px ∧ RY a = zv_c 3 a' ∧ RX b = zv_c 2 b' ∧ zv_V M np nc (FY a') (FX b'))) ∨
       (40 < w ∧ w ≤ 45 ∧ ∃ p, ls_P T n p ∧ RY a = cd_yl T n p ∧ RX b = cd_xl T n p))) := by
  have hb := hp.2.2.2.2.2
  by_cases c0 : T j = 0
  · obtain ⟨d1, d2, d3, d4, d5⟩ := cd_in hR hj c0 hC
    rw [cd_yv_0 c0, cd_xv_0 c0]
    by_cases c1 : T (j + 1) = 1
    · have z : ¬ (j + 1 < n ∧ T (j + 1) ≠ 1) := fun z => z.2 c1
      rw [cd_yl_e z, cd_xl_e z]
      exact Or.inr (Or.inr (Or.inr (Or.inl (Or.inl ⟨rfl, rfl⟩))))
    · obtain ⟨e1, e2, e3, e4, e5, e6⟩ := cd_cell hc hb d1 c1 d2 d3
      rw [cd_yl_p d1 c1, cd_xl_p d1 c1]
      obtain ⟨f1, f2⟩ := pz_nx_ok hR d1 c1
      by_cases w : 40 ≤ T (j + 1) ∧ T (j + 1) ≤ 45
      · have hA := cd_yv_a (T := T) (n := n) (j := j + 1) (by omega)
        have hB := cd_xv_a (T := T) (n := n) (j := j + 1) (by omega)
        have g : zv_yA (T (j + 1)) = zv_c 4 (T (j + 1)) ∧ zv_xA (T (j + 1)) = zv_c 1 (T (j + 1)) := by
          unfold zv_yA zv_xA
          rw [if_neg (by omega), if_neg (by omega), if_neg (by omega), if_neg (by omega)]
          exact ⟨rfl, rfl⟩
        refine Or.inr (Or.inr (Or.inr (Or.inr (Or.inr ⟨_, _, T (j + 1), e1, e2, rfl, rfl, by rw [e3, hA, g.1], by rw [e5, hB, g.2], ?_⟩))))
        by_cases w4 : T (j + 1) = 40
        · refine Or.inl ⟨w4, ?_⟩
          have q := d5 w4
          have q2 := (pz_QC_e f2).mpr q
          have q3 := pz_QC_nD0 q2
          have q4 := pz_Fm_nmk f2
          obtain ⟨k, k1, _⟩ := pz_Ln_ex hR _ (pz_nx T n (j + 1)) rfl f1
          rw [e4, e6]
          refine ⟨k, cd_chY hR hc hb _ _ k1 q4 q3, cd_chX hR hc hb _ _ k1 q4 q3, fun k9 => ?_⟩
          subst k9
          obtain ⟨k2, k3, _⟩ := k1
          obtain ⟨r1, r2, r3, r4, r5, r6⟩ := cd_cell hc hb k2 k3 q4 q3
          refine ⟨_, _, r1, r2, cd_yl_p k2 k3, cd_xl_p k2 k3, ?_⟩
          rw [r3, r5]
          exact zv_V_mono hM (Nat.le_refl _) (Nat.le_refl _) (cd_Vv hR hn hT k2 k3 (fun z => pz_QC_nCL q2 z.2))
        · refine Or.inr ⟨by omega, w.2, pz_nx T n (j + 1), ls_nx hR (d4 w4) d1 c1, e4, e6⟩
      · have l := d4 (by omega)
        exact Or.inr (Or.inr (Or.inr (Or.inr (Or.inl ⟨_, _, j + 1, e1, e2, rfl, rfl, d1, c1, ls_CF l, e3, e5, e4, e6, ls_nx hR l d1 c1, w⟩))))
  · by_cases c2 : T j = 2
    · obtain ⟨⟨a1, a2, a3, a4⟩, b1, b2, b3, b4⟩ := hc.2 j hj c2 hC
      have g1 := hb 1 j ⟨hj, Or.inr ⟨Or.inl rfl, c2⟩⟩
      have g2 := hb 2 j ⟨hj, Or.inr ⟨Or.inr rfl, c2⟩⟩
      have hj1 : j + 1 < n := by
        by_cases z : j + 1 = n
        · exact absurd (z ▸ pz_mk_s.mpr c2) hR.2.2
        · omega
      have hj2 : T (j + 1) ≠ 1 := fun z => (hR.1 (j + 1) hj1 z).2 (pz_mk_s.mpr c2)
      refine Or.inr (Or.inr (Or.inr (Or.inr (Or.inr ⟨_, _, 40, g1.1, g1.2, cd_yv_2 c2, cd_xv_2 c2, a1, b1, Or.inl ⟨rfl, 1, ⟨_, g2.1, a2, a4⟩, ⟨_, g2.2, b2, b4⟩, fun _ => ⟨_, _, g2.1, g2.2, a2, b2, ?_⟩⟩⟩))))
      rw [a3, b3]
      exact zv_V_mono hM (Nat.le_refl _) (Nat.le_refl _) (cd_Vv hR hn hT hj1 hj2 (fun z => z.1 (pz_mk_s.mpr c2)))
    · have h3 : 3 ≤ T j := by omega
      rw [cd_yv_a h3, cd_xv_a h3]
      rcases cd_atom (hT j hj) h3 with ⟨a, s, k, k1, k2, _, k3, k4⟩ | ⟨k1, k2, k3⟩
      · exact Or.inl ⟨a, s, k, k1, k2, k3, k4⟩
      · have ht := hT j hj
        unfold zv_tk at ht
        by_cases u1 : T j ≤ 39
        · exact Or.inr (Or.inl ⟨_, k1, u1, k2, k3⟩)
        · by_cases u2 : T j ≤ 45
          · exact Or.inr (Or.inr (Or.inr (Or.inl (Or.inr ⟨_, by omega, u2, k2, k3⟩))))
          · exact Or.inr (Or.inr (Or.inl ⟨_, by omega, by omega, k2, k3⟩))
end
end
section
/-! X: counting the forms, reading them -/
section
variable {x_textLength : Int32} {x_pairCount : Int32} {x_placeCount : Int32} {x_procedureCount : Int32} {x_continuationCount : Int32} {x_frameCount : Int32} {x_state : Int32} {x_ending : Int32} {x_form : Int64} {x_environment : Int32} {x_frame : Int32} {x_value : Int64} {x_applied : Int64} {x_argumentCount : Int32} {x_countedCount : Int32} {x_consCount : Int32} {x_entryCount : Int32} {x_outputCount : Int32} {x_itemCount : Int32} {x_text : Nat → Int32} {x_firsts : Nat → Int64} {x_rests : Nat → Int64} {x_placeNames : Nat → Int32} {x_placeValues : Nat → Int64} {x_placeOuters : Nat → Int32} {x_procedureParts : Nat → Int64} {x_procedurePlaces : Nat → Int32} {x_continuationFrames : Nat → Int32} {x_frameTasks : Nat → Int32} {x_frameForms : Nat → Int64} {x_frameValues : Nat → Int64} {x_framePlaces : Nat → Int32} {x_frameNexts : Nat → Int32} {x_arguments : Nat → Int64} {x_outputs : Nat → Int32} {x_itemKinds : Nat → Int32} {x_itemNumbers : Nat → Int32} {x_openLists : Nat → Int64}
variable {T : Nat → Nat} {n i px t : Nat}
theorem cl_L {f : Nat → Int64} {i : Int32} {k : Nat} {a : Int64} (e : i.toNatClampNeg = k) : vp_updL f i.toNatClampNeg a = vp_updL f k a := by rw [e]
theorem cl_I {f : Nat → Int32} {i : Int32} {k : Nat} {a : Int32} (e : i.toNatClampNeg = k) : upd f i.toNatClampNeg a = upd f k a := by rw [e]
theorem cl_R {α : Type} {f : Nat → α} {i : Int32} {k : Nat} (e : i.toNatClampNeg = k) : f i.toNatClampNeg = f k := by rw [e]
theorem zv_cl {t k : Nat} (h : k < 2 ^ 31) : (zv_c t k).toInt32.toNatClampNeg = k := by rw [zv_lo, nI_clamp h]
theorem zv_in {t k N : Nat} (h : k < N) (hN : N < 2 ^ 31) : vp_in (zv_c t k).toInt32 N := by rw [zv_lo]; exact vp_in_nI h hN
theorem zk_xE : (12884901888 : Int64) = zv_c 3 0 := by decide
theorem zk_xN : (34359738368 : Int64) = zv_c 8 0 := by decide
theorem zk_xF : (17179869184 : Int64) = zv_c 4 0 := by decide
theorem zk_xT : (17179869185 : Int64) = zv_c 4 1 := by decide
theorem zk_30 : (4294967326 : Int64) = zv_c 1 30 := by decide
theorem zk_39 : (4294967335 : Int64) = zv_c 1 39 := by decide
theorem zk_40 : (4294967336 : Int64) = zv_c 1 40 := by decide
theorem zk_45 : (4294967341 : Int64) = zv_c 1 45 := by decide
theorem zk_m {t k : Nat} (ht : t < 16) (hk : k < 4294967296) {a b : Int32} (ha : a = nI t) (hb : b = nI k) : (a.toInt64 <<< ((32 : Int32).toInt64 &&& 63)) ||| (b.toInt64 &&& 4294967295) = zv_c t k := by
  subst ha
  exact zv_mk ht hk (nI_l (by omega)) hb
theorem xs_tagged {post : Int64 → Prop} {t k : Nat} {a b : Int32} (ha : a = nI t) (hb : b = nI k) (ht : t < 16) (hk : k < 4294967296) (h : post (zv_c t k)) : wpX_tagged post a b := by
  unfold wpX_tagged
  rw [zk_m ht hk ha hb]
  exact h
theorem xs_cf58 {post : Int32 → Prop} {J : Int32 → Int32 → Int32 → Int32 → Prop} {d w : Nat} (hd : d < 2 ^ 31) (ht : t < 100) (h : J (nI d) (nI (if d = 0 ∧ t ≠ 2 then w + 1 else w)) (if t = 2 then 1 else 0) (nI (i + 1))) : wX_countForms_58 post J (nI d) (nI w) (nI i) (nI t) x_textLength x_pairCount x_placeCount x_procedureCount x_continuationCount x_frameCount x_state x_ending x_form x_environment x_frame x_value x_applied x_argumentCount x_countedCount x_consCount x_entryCount x_outputCount x_itemCount x_text x_firsts x_rests x_placeNames x_placeValues x_placeOuters x_procedureParts x_procedurePlaces x_continuationFrames x_frameTasks x_frameForms x_frameValues x_framePlaces x_frameNexts x_arguments x_outputs x_itemKinds x_itemNumbers x_openLists := by
  unfold wX_countForms_58 wX_countForms_69
  by_cases c : t = 2
  · subst c
    rw [if_neg (fun z => z.2 rfl), if_pos rfl] at h
    refine br_t rfl ?_
    by_cases c0 : d = 0
    · subst c0
      exact br_t rfl (br_f (by decide) (nm_r (nI_1 i) h))
    · exact br_f (nI_ne0 (by omega) hd) (nm_r (nI_1 i) h)
  · rw [if_neg c] at h
    refine br_f (fun z => c ((nI_eq (a := t) (b := 2) (by omega) (by omega)).mp z)) ?_
    by_cases c0 : d = 0
    · subst c0
      rw [if_pos ⟨rfl, c⟩] at h
      exact br_t rfl (br_t rfl (nm_r (nI_1 w) (nm_r (nI_1 i) h)))
    · rw [if_neg (fun z => c0 z.1)] at h
      exact br_f (nI_ne0 (by omega) hd) (nm_r (nI_1 i) h)
def pz_mb (T : Nat → Nat) (i : Nat) : Int32 := if 0 < i ∧ T (i - 1) = 2 then 1 else 0
theorem pz_mb_s : pz_mb T (i + 1) = if T i = 2 then 1 else 0 := by
  unfold pz_mb
  rw [Nat.add_sub_cancel]
  by_cases c : T i = 2
  · rw [if_pos ⟨by omega, c⟩, if_pos c]
  · rw [if_neg (fun z => c z.2), if_neg c]
theorem pz_mb_t (h : pz_mk T i) : pz_mb T i = 1 := if_pos h
theorem pz_mb_f (h : ¬ pz_mk T i) : pz_mb T i = 0 := if_neg h
theorem pz_dd_b : pz_dd T i ≤ i := by
  induction i with
  | zero => exact Nat.le_refl _
  | succ i ih => have := pz_dd_le (T := T) (i := i); omega
theorem xs_cf {post : Int32 → Prop} (hn : n ≤ 70) (hT : ∀ i, i < n → zv_tk (T i) ∧ x_text i = nI (T i)) (h1 : pz_Rd T n → post (nI (pz_ww T n))) (h2 : ¬ pz_Rd T n → post (-1000000003)) :
    ∀ d i, i + d = n → (∀ j, j < i → pz_ok T j) → wX_countForms_9 post (nI n) x_pairCount x_placeCount x_procedureCount x_continuationCount x_frameCount x_state x_ending x_form x_environment x_frame x_value x_applied x_argumentCount x_countedCount x_consCount x_entryCount x_outputCount x_itemCount x_text x_firsts x_rests x_placeNames x_placeValues x_placeOuters x_procedureParts x_procedurePlaces x_continuationFrames x_frameTasks x_frameForms x_frameValues x_framePlaces x_frameNexts x_arguments x_outputs x_itemKinds x_itemNumbers x_openLists (d + 1) (nI (pz_dd T i)) (nI (pz_ww T i)) (pz_mb T i) (nI i) := by
  intro d
  induction d with
  | zero =>
    intro i hi hok
    have hin : i = n := by omega
    subst hin
    have hb := pz_dd_b (T := T) (i := i)
    refine br_t (nI_le (Nat.le_refl _) (by omega)) ?_
    by_cases c : pz_dd T i = 0
    · refine br_t (by rw [c]; rfl) ?_
      by_cases m : pz_mk T i
      · rw [pz_mb_t m]
        exact br_f (by decide) (h2 (fun z => z.2.2 m))
      · rw [pz_mb_f m]
        exact br_t rfl (h1 ⟨hok, c, m⟩)
    · exact br_f (nI_ne0 (by omega) (by omega)) (h2 (fun z => c z.2.1))
  | succ d ih =>
    intro i hi hok
    have hb := pz_dd_b (T := T) (i := i)
    obtain ⟨tk, te⟩ := hT i (by omega)
    have tl : T i < 100 := by unfold zv_tk at tk; omega
    have ec : (nI i).toNatClampNeg = i := nI_clamp (by omega)
    refine br_f (nI_ge (by omega) (by omega)) ⟨vp_in_nI (by omega) (by decide), nm_r ((cl_R ec).trans te) ?_⟩
    have next : pz_ok T i → wX_countForms_9 post (nI n) x_pairCount x_placeCount x_procedureCount x_continuationCount x_frameCount x_state x_ending x_form x_environment x_frame x_value x_applied x_argumentCount x_countedCount x_consCount x_entryCount x_outputCount x_itemCount x_text x_firsts x_rests x_placeNames x_placeValues x_placeOuters x_procedureParts x_procedurePlaces x_continuationFrames x_frameTasks x_frameForms x_frameValues x_framePlaces x_frameNexts x_arguments x_outputs x_itemKinds x_itemNumbers x_openLists (d + 1) (nI (pz_dd T (i + 1))) (nI (if pz_dd T (i + 1) = 0 ∧ T i ≠ 2 then pz_ww T i + 1 else pz_ww T i)) (if T i = 2 then 1 else 0) (nI (i + 1)) := by
      intro ok
      have := ih (i + 1) (by omega) (fun j hj => by
        by_cases z : j = i
        · rw [z]; exact ok
        · exact hok j (by omega))
      rw [pz_ww, pz_mb_s] at this
      exact this
    by_cases c1 : T i = 1
    · rw [c1]
      refine br_t rfl ?_
      by_cases m : pz_mk T i
      · rw [pz_mb_t m]
        exact br_f (by decide) (h2 (fun z => (z.1 i (by omega) c1).2 m))
      · rw [pz_mb_f m]
        refine br_t rfl ?_
        by_cases c0 : pz_dd T i = 0
        · exact br_t (by rw [c0]; rfl) (h2 (fun z => by have := (z.1 i (by omega) c1).1; omega))
        · obtain ⟨k, hk⟩ : ∃ k, pz_dd T i = k + 1 := ⟨pz_dd T i - 1, by omega⟩
          have hd := pz_dd_c c1
          rw [hk] at hd ⊢
          have nx := next (fun _ => ⟨by omega, m⟩)
          rw [hd, c1, Nat.add_sub_cancel] at nx
          exact br_f (nI_ne0 (by omega) (by omega)) (nm_r (pk_m1 k) (xs_cf58 (t := 1) (by omega) (by omega) nx))
    · refine br_f (fun z => c1 ((nI_eq (a := T i) (b := 1) (by omega) (by omega)).mp z)) ?_
      have nx := next (fun z => absurd z c1)
      by_cases c0 : T i = 0
      · rw [pz_dd_o c0, c0] at nx
        rw [c0]
        exact br_t rfl (nm_r (nI_1 _) (xs_cf58 (t := 0) (by omega) (by omega) nx))
      · rw [pz_dd_a c0 c1] at nx
        exact br_f (fun z => c0 ((nI_eq (a := T i) (b := 0) (by omega) (by omega)).mp z)) (xs_cf58 (by omega) tl nx)
theorem xs_countForms {post : Int32 → Prop} (hn : n ≤ 70) (hT : ∀ i, i < n → zv_tk (T i) ∧ x_text i = nI (T i)) (h1 : pz_Rd T n → post (nI (pz_ww T n))) (h2 : ¬ pz_Rd T n → post (-1000000003)) : wpX_countForms post (nI n, x_pairCount, x_placeCount, x_procedureCount, x_continuationCount, x_frameCount, x_state, x_ending, x_form, x_environment, x_frame, x_value, x_applied, x_argumentCount, x_countedCount, x_consCount, x_entryCount, x_outputCount, x_itemCount, x_text, x_firsts, x_rests, x_placeNames, x_placeValues, x_placeOuters, x_procedureParts, x_procedurePlaces, x_continuationFrames, x_frameTasks, x_frameForms, x_frameValues, x_framePlaces, x_frameNexts, x_arguments, x_outputs, x_itemKinds, x_itemNumbers, x_openLists) :=
  ⟨n + 1, xs_cf hn hT h1 h2 n 0 (by omega) (fun j hj => by omega)⟩
theorem xs_newPair {post : Int64 → SX → Prop} {a b : Int64} (h : px < 1400) (hp : post (zv_c 2 px) (x_textLength, nI (px + 1), x_placeCount, x_procedureCount, x_continuationCount, x_frameCount, x_state, x_ending, x_form, x_environment, x_frame, x_value, x_applied, x_argumentCount, x_countedCount, x_consCount, x_entryCount, x_outputCount, x_itemCount, x_text, vp_updL x_firsts px a, vp_updL x_rests px b, x_placeNames, x_placeValues, x_placeOuters, x_procedureParts, x_procedurePlaces, x_continuationFrames, x_frameTasks, x_frameForms, x_frameValues, x_framePlaces, x_frameNexts, x_arguments, x_outputs, x_itemKinds, x_itemNumbers, x_openLists)) : wpX_newPair post (x_textLength, nI px, x_placeCount, x_procedureCount, x_continuationCount, x_frameCount, x_state, x_ending, x_form, x_environment, x_frame, x_value, x_applied, x_argumentCount, x_countedCount, x_consCount, x_entryCount, x_outputCount, x_itemCount, x_text, x_firsts, x_rests, x_placeNames, x_placeValues, x_placeOuters, x_procedureParts, x_procedurePlaces, x_continuationFrames, x_frameTasks, x_frameForms, x_frameValues, x_framePlaces, x_frameNexts, x_arguments, x_outputs, x_itemKinds, x_itemNumbers, x_openLists) a b := by
  have hi : vp_in (nI px) 1400 := vp_in_nI h (by decide)
  have e : (nI px).toNatClampNeg = px := nI_clamp (by omega)
  exact br_t (nI_lt (b := 1400) h (by decide)) (nm_r (nI_1 px) ⟨hi, nm_r (cl_L e) ⟨hi, nm_r (cl_L e) (xs_tagged (t := 2) (k := px) rfl rfl (by decide) (by omega) hp)⟩⟩)
theorem xs_formOf {post : Int64 → Prop} (ht : zv_tk t) (h3 : 3 ≤ t) (h : post (zv_xA t)) : wpX_formOf post (nI t) := by
  unfold zv_tk at ht
  unfold zv_xA at h
  unfold wpX_formOf
  by_cases c3 : t = 3
  · subst c3
    exact br_t rfl (by rw [zk_xT]; exact h)
  · refine br_f (fun z => c3 ((nI_eq (a := t) (b := 3) (by omega) (by omega)).mp z)) ?_
    by_cases c4 : t = 4
    · subst c4
      exact br_t rfl (by rw [zk_xF]; exact h)
    · refine br_f (fun z => c4 ((nI_eq (a := t) (b := 4) (by omega) (by omega)).mp z)) ?_
      rw [if_neg (by omega)] at h
      by_cases c : t < 30
      · rw [if_pos c] at h
        exact br_f (nI_ge (b := 30) c (by decide)) (xs_tagged (t := 0) (k := t - 10) rfl (pk_sub (a := t) (b := 10) (by omega)) (by decide) (by omega) h)
      · rw [if_neg c] at h
        exact br_t (nI_le (a := 30) (by omega) (by omega)) (xs_tagged (t := 1) (k := t) rfl rfl (by decide) (by omega) h)
end
end
section
/-! X: reading the forms -/
section
variable {x_textLength : Int32} {x_pairCount : Int32} {x_placeCount : Int32} {x_procedureCount : Int32} {x_continuationCount : Int32} {x_frameCount : Int32} {x_state : Int32} {x_ending : Int32} {x_form : Int64} {x_environment : Int32} {x_frame : Int32} {x_value : Int64} {x_applied : Int64} {x_argumentCount : Int32} {x_countedCount : Int32} {x_consCount : Int32} {x_entryCount : Int32} {x_outputCount : Int32} {x_itemCount : Int32} {x_text : Nat → Int32} {x_firsts : Nat → Int64} {x_rests : Nat → Int64} {x_placeNames : Nat → Int32} {x_placeValues : Nat → Int64} {x_placeOuters : Nat → Int32} {x_procedureParts : Nat → Int64} {x_procedurePlaces : Nat → Int32} {x_continuationFrames : Nat → Int32} {x_frameTasks : Nat → Int32} {x_frameForms : Nat → Int64} {x_frameValues : Nat → Int64} {x_framePlaces : Nat → Int32} {x_frameNexts : Nat → Int32} {x_arguments : Nat → Int64} {x_outputs : Nat → Int32} {x_itemKinds : Nat → Int32} {x_itemNumbers : Nat → Int32} {x_openLists : Nat → Int64}
variable {T : Nat → Nat} {n : Nat}
theorem xs_x4 (i : Nat) : nI i + (-1) = if i = 0 then -1 else nI (i - 1) := by
  cases i with
  | zero => rfl
  | succ k => rw [if_neg (by omega), Nat.add_sub_cancel]; exact pk_m1 k
theorem xs_rf {post : Int64 → SX → Prop} (hR : pz_Rd T n) (hn : n ≤ 70) (hT : ∀ i, i < n → zv_tk (T i) ∧ x_text i = nI (T i))
    (hp : ∀ OL F R, xr_I T n 0 OL F R → post (cd_xl T n 0) (x_textLength, nI (pz_W T n), x_placeCount, x_procedureCount, x_continuationCount, x_frameCount, x_state, x_ending, x_form, x_environment, x_frame, x_value, x_applied, x_argumentCount, x_countedCount, x_consCount, x_entryCount, x_outputCount, x_itemCount, x_text, F, R, x_placeNames, x_placeValues, x_placeOuters, x_procedureParts, x_procedurePlaces, x_continuationFrames, x_frameTasks, x_frameForms, x_frameValues, x_framePlaces, x_frameNexts, x_arguments, x_outputs, x_itemKinds, x_itemNumbers, OL)) :
    ∀ i, i ≤ n → ∀ OL F R, xr_I T n i OL F R → wX_readForms_14 post (i + 1) (cd_xl T n i) (nI (pz_dd T i)) (if i = 0 then -1 else nI (i - 1)) x_textLength (nI (pz_W T n - pz_W T i)) x_placeCount x_procedureCount x_continuationCount x_frameCount x_state x_ending x_form x_environment x_frame x_value x_applied x_argumentCount x_countedCount x_consCount x_entryCount x_outputCount x_itemCount x_text F R x_placeNames x_placeValues x_placeOuters x_procedureParts x_procedurePlaces x_continuationFrames x_frameTasks x_frameForms x_frameValues x_framePlaces x_frameNexts x_arguments x_outputs x_itemKinds x_itemNumbers OL := by
  intro i
  induction i with
  | zero =>
    intro _ OL F R hI
    exact br_t (by decide) (hp OL F R hI)
  | succ i ih =>
    intro hi OL F R hI
    rw [if_neg (by omega), Nat.add_sub_cancel]
    have hb := pz_dd_b (T := T) (i := i + 1)
    have hb0 := pz_dd_b (T := T) (i := i)
    obtain ⟨tk, te⟩ := hT i (by omega)
    have tl : T i < 100 := by unfold zv_tk at tk; omega
    have ec : (nI i).toNatClampNeg = i := nI_clamp (by omega)
    have hW := pz_W_le (T := T) (i := n)
    have hWm := pz_W_mono (T := T) (show i + 1 ≤ n by omega)
    have hWs : pz_W T (i + 1) = pz_W T i + pz_w (T i) := rfl
    refine br_f (nI_pos (by omega)) ⟨vp_in_nI (by omega) (by decide), nm_r ((cl_R ec).trans te) ?_⟩
    by_cases c1 : T i = 1
    · obtain ⟨e1, hI2⟩ := xr_1 hR (by omega) c1 hI
      have := ih (by omega) _ F R hI2
      rw [xr_l1 c1, ← zk_xE, e1, ← xs_x4] at this
      have hw : pz_W T i = pz_W T (i + 1) := by rw [hWs, c1]; rfl
      rw [hw] at this
      have ed : (nI (pz_dd T (i + 1))).toNatClampNeg = pz_dd T (i + 1) := nI_clamp (by omega)
      rw [c1]
      exact br_t rfl ⟨vp_in_nI (by omega) (by decide), nm_r (cl_L ed) (nm_r (nI_1 _) (nm_e this))⟩
    · refine br_f (fun z => c1 ((nI_eq (a := T i) (b := 1) (by omega) (by omega)).mp z)) ?_
      by_cases c0 : T i = 0
      · obtain ⟨e1, e2, e3, hI2⟩ := xr_0 hR (by omega) c0 hI
        have := ih (by omega) _ _ _ hI2
        rw [xr_l (by omega) (by omega) c1, ← xs_x4] at this
        have hw : pz_W T n - pz_W T i = pz_W T n - pz_W T (i + 1) + 1 := by rw [hWs, c0] at hWm ⊢; have : pz_w 0 = 1 := rfl; omega
        rw [hw] at this
        have ed : (nI (pz_dd T i)).toNatClampNeg = pz_dd T i := nI_clamp (by omega)
        have e4 : nI (pz_dd T (i + 1)) + (-1) = nI (pz_dd T i) := by rw [e1]; exact pk_m1 _
        rw [c0]
        refine br_t rfl (nm_r e4 ⟨vp_in_nI (by omega) (by decide), ?_⟩)
        rw [(cl_R ed).trans e2]
        exact xs_newPair (by omega) (nm_e this)
      · refine br_f (fun z => c0 ((nI_eq (a := T i) (b := 0) (by omega) (by omega)).mp z)) ?_
        by_cases c2 : T i = 2
        · obtain ⟨e1, e2, e3, e4, e5, e6, e7, hI2⟩ := xr_2 hR (by omega) c2 hI
          have := ih (by omega) _ _ _ hI2
          rw [e5, ← xs_x4, ← e1] at this
          have hw : pz_W T n - pz_W T i = pz_W T n - pz_W T (i + 1) + 1 + 1 := by rw [hWs, c2] at hWm ⊢; have : pz_w 2 = 2 := rfl; omega
          rw [hw] at this
          rw [c2, e4]
          have hin : vp_in (zv_c 2 (pz_AX T n 0 (i + 1))).toInt32 1400 := zv_in (by omega) (by decide)
          have ea : (zv_c 2 (pz_AX T n 0 (i + 1))).toInt32.toNatClampNeg = pz_AX T n 0 (i + 1) := zv_cl (by omega)
          refine br_t rfl ⟨hin, ?_⟩
          rw [(cl_R ea).trans e7, zk_xE, zk_40]
          exact xs_newPair (by omega) (xs_newPair (by omega) ⟨hin, nm_r (cl_L ea) (nm_e this)⟩)
        · refine br_f (fun z => c2 ((nI_eq (a := T i) (b := 2) (by omega) (by omega)).mp z)) ?_
          obtain ⟨e1, hI2⟩ := xr_a hR (by omega) (by omega) hI
          have := ih (by omega) _ _ _ hI2
          rw [xr_l (by omega) c2 c1, ← xs_x4, ← e1] at this
          have hw : pz_W T n - pz_W T i = pz_W T n - pz_W T (i + 1) + 1 := by
            have : pz_w (T i) = 1 := by unfold pz_w; rw [if_neg c1, if_neg c2]
            rw [hWs, this] at hWm ⊢; omega
          rw [hw] at this
          exact xs_formOf tk (by omega) (xs_newPair (by omega) (nm_e this))
theorem xs_readForms {post : Int64 → SX → Prop} (hR : pz_Rd T n) (hn : n ≤ 70) (hT : ∀ i, i < n → zv_tk (T i) ∧ x_text i = nI (T i))
    (hp : ∀ OL F R, xr_I T n 0 OL F R → post (cd_xl T n 0) (nI n, nI (pz_W T n), x_placeCount, x_procedureCount, x_continuationCount, x_frameCount, x_state, x_ending, x_form, x_environment, x_frame, x_value, x_applied, x_argumentCount, x_countedCount, x_consCount, x_entryCount, x_outputCount, x_itemCount, x_text, F, R, x_placeNames, x_placeValues, x_placeOuters, x_procedureParts, x_procedurePlaces, x_continuationFrames, x_frameTasks, x_frameForms, x_frameValues, x_framePlaces, x_frameNexts, x_arguments, x_outputs, x_itemKinds, x_itemNumbers, OL)) : wpX_readForms post (nI n, 0, x_placeCount, x_procedureCount, x_continuationCount, x_frameCount, x_state, x_ending, x_form, x_environment, x_frame, x_value, x_applied, x_argumentCount, x_countedCount, x_consCount, x_entryCount, x_outputCount, x_itemCount, x_text, x_firsts, x_rests, x_placeNames, x_placeValues, x_placeOuters, x_procedureParts, x_procedurePlaces, x_continuationFrames, x_frameTasks, x_frameForms, x_frameValues, x_framePlaces, x_frameNexts, x_arguments, x_outputs, x_itemKinds, x_itemNumbers, x_openLists) := by
  have h := xs_rf (x_textLength := nI n) hR hn hT hp n (Nat.le_refl _) x_openLists x_firsts x_rests xr_start
  rw [Nat.sub_self, xr_ln, hR.2.1, ← xs_x4, ← zk_xE] at h
  exact nm_r (Int32.sub_eq_add_neg (nI n) 1) ⟨n + 1, h⟩
end
end
section
/-! Y: putting a form, reading the text -/
section
variable {y_size : Int32} {y_pairs : Int32} {y_open : Int32} {y_formCount : Int32} {y_places : Int32} {y_procedures : Int32} {y_continuationCount : Int32} {y_things : Int32} {y_foundCount : Int32} {y_argumentCount : Int32} {y_value : Int64} {y_form : Int64} {y_wherein : Int32} {y_next : Int32} {y_working : Int32} {y_ending : Int32} {y_counts : Int32} {y_made : Int32} {y_entered : Int32} {y_printCount : Int32} {y_itemCount : Int32} {y_text : Nat → Int32} {y_firsts : Nat → Int64} {y_rests : Nat → Int64} {y_heads : Nat → Int32} {y_lasts : Nat → Int32} {y_globals : Nat → Int64} {y_placeNames : Nat → Int32} {y_placeValues : Nat → Int64} {y_placeNexts : Nat → Int32} {y_procedureForms : Nat → Int64} {y_procedurePlaces : Nat → Int32} {y_continuations : Nat → Int32} {y_whats : Nat → Int32} {y_withs : Nat → Int64} {y_whereins : Nat → Int32} {y_soFars : Nat → Int32} {y_afters : Nat → Int32} {y_found : Nat → Int64} {y_foundNexts : Nat → Int32} {y_arguments : Nat → Int64} {y_prints : Nat → Int32} {y_itemKinds : Nat → Int32} {y_itemNumbers : Nat → Int32} {y_pile : Nat → Int64}
variable {T : Nat → Nat} {n t b m py fc : Nat} {o : Nat → Nat} {H L : Nat → Int32} {F R : Nat → Int64}
theorem ys_thing {post : Int64 → Prop} {t k : Nat} {a b : Int32} (ha : a = nI t) (hb : b = nI k) (ht : t < 16) (hk : k < 4294967296) (h : post (zv_c t k)) : wpY_thing post (y_size, y_pairs, y_open, y_formCount, y_places, y_procedures, y_continuationCount, y_things, y_foundCount, y_argumentCount, y_value, y_form, y_wherein, y_next, y_working, y_ending, y_counts, y_made, y_entered, y_printCount, y_itemCount, y_text, y_firsts, y_rests, y_heads, y_lasts, y_globals, y_placeNames, y_placeValues, y_placeNexts, y_procedureForms, y_procedurePlaces, y_continuations, y_whats, y_withs, y_whereins, y_soFars, y_afters, y_found, y_foundNexts, y_arguments, y_prints, y_itemKinds, y_itemNumbers, y_pile) a b := by
  unfold wpY_thing
  rw [zk_m ht hk ha hb]
  exact h
theorem ys_pair {post : Int32 → SY → Prop} {a c : Int64} (h : py < 900) (hp : post (nI py) (y_size, nI (py + 1), y_open, y_formCount, y_places, y_procedures, y_continuationCount, y_things, y_foundCount, y_argumentCount, y_value, y_form, y_wherein, y_next, y_working, y_ending, y_counts, y_made, y_entered, y_printCount, y_itemCount, y_text, vp_updL y_firsts py a, vp_updL y_rests py c, y_heads, y_lasts, y_globals, y_placeNames, y_placeValues, y_placeNexts, y_procedureForms, y_procedurePlaces, y_continuations, y_whats, y_withs, y_whereins, y_soFars, y_afters, y_found, y_foundNexts, y_arguments, y_prints, y_itemKinds, y_itemNumbers, y_pile)) : wpY_pair post (y_size, nI py, y_open, y_formCount, y_places, y_procedures, y_continuationCount, y_things, y_foundCount, y_argumentCount, y_value, y_form, y_wherein, y_next, y_working, y_ending, y_counts, y_made, y_entered, y_printCount, y_itemCount, y_text, y_firsts, y_rests, y_heads, y_lasts, y_globals, y_placeNames, y_placeValues, y_placeNexts, y_procedureForms, y_procedurePlaces, y_continuations, y_whats, y_withs, y_whereins, y_soFars, y_afters, y_found, y_foundNexts, y_arguments, y_prints, y_itemKinds, y_itemNumbers, y_pile) a c := by
  have hi : vp_in (nI py) 900 := vp_in_nI h (by decide)
  have e : (nI py).toNatClampNeg = py := nI_clamp (by omega)
  refine ⟨hi, nm_r (cl_L e) ⟨hi, nm_r (cl_L e) (nm_r (nI_1 py) ?_)⟩⟩
  rw [nI_pred]
  exact hp
theorem ys_134 {post : SY → Prop} {k : Nat} {x : Int32} (hk : k < 72) (hp : post (y_size, y_pairs, nI (k + 1), nI (if k = 0 then fc + 1 else fc), y_places, y_procedures, y_continuationCount, y_things, y_foundCount, y_argumentCount, y_value, y_form, y_wherein, y_next, y_working, y_ending, y_counts, y_made, y_entered, y_printCount, y_itemCount, y_text, y_firsts, y_rests, y_heads, upd y_lasts k x, y_globals, y_placeNames, y_placeValues, y_placeNexts, y_procedureForms, y_procedurePlaces, y_continuations, y_whats, y_withs, y_whereins, y_soFars, y_afters, y_found, y_foundNexts, y_arguments, y_prints, y_itemKinds, y_itemNumbers, y_pile)) : wY_put_134 post x y_size y_pairs (nI (k + 1)) (nI fc) y_places y_procedures y_continuationCount y_things y_foundCount y_argumentCount y_value y_form y_wherein y_next y_working y_ending y_counts y_made y_entered y_printCount y_itemCount y_text y_firsts y_rests y_heads y_lasts y_globals y_placeNames y_placeValues y_placeNexts y_procedureForms y_procedurePlaces y_continuations y_whats y_withs y_whereins y_soFars y_afters y_found y_foundNexts y_arguments y_prints y_itemKinds y_itemNumbers y_pile := by
  unfold wY_put_134
  rw [nI_pred]
  have e : (nI k).toNatClampNeg = k := nI_clamp (by omega)
  refine ⟨vp_in_nI hk (by decide), nm_r (cl_I e) ?_⟩
  by_cases c : k = 0
  · rw [if_pos c] at hp
    subst c
    exact br_t rfl (nm_r (nI_1 fc) hp)
  · rw [if_neg c] at hp
    exact br_f (fun z => c (by have := (nI_eq (a := k + 1) (b := 1) (by omega) (by omega)).mp z; omega)) hp
theorem ys_put_e {post : SY → Prop} {k f : Nat} {F' R' : Nat → Int64} (hn : n ≤ 70) (ht : t + 1 ≤ n)
    (hb : (3 ≤ T b ∧ t + 1 = b + 1) ∨ (T b = 0 ∧ b + 1 < t + 1 ∧ T (t + 1 - 1) = 1 ∧ pz_dd T (t + 1) = pz_dd T b ∧ ∀ j, b < j → j < t + 1 → pz_dd T b < pz_dd T j))
    (hs : ∀ k, k < m → yr_sg T n o H L k) (ho : ∀ k, k ≤ m → o k ≤ t) (hH : yr_H T n t F R) (hm : m ≤ 71) (hB : pz_P T t + 2 * m ≤ 2 * t + 2)
    (hfin : ∀ k, k < m → ∀ H' L' F' R', yr_H T n (t + 1) F' R' → (∀ i, i ≤ k → yr_sg T n (fun i => if i = k + 1 then t + 1 else o i) H' L' i) → (pz_dd T (t + 1) = 0 ↔ k = 0) → pz_P T (t + 1) + 2 * (k + 1) ≤ 2 * (t + 1) + 2 →
      post (y_size, nI (pz_P T (t + 1)), nI (k + 1), nI (if k = 0 then fc + 1 else fc), y_places, y_procedures, y_continuationCount, y_things, y_foundCount, y_argumentCount, y_value, y_form, y_wherein, y_next, y_working, y_ending, y_counts, y_made, y_entered, y_printCount, y_itemCount, y_text, F', R', H', L', y_globals, y_placeNames, y_placeValues, y_placeNexts, y_procedureForms, y_procedurePlaces, y_continuations, y_whats, y_withs, y_whereins, y_soFars, y_afters, y_found, y_foundNexts, y_arguments, y_prints, y_itemKinds, y_itemNumbers, y_pile))
    (hk : k < m) (hne : H k ≠ -2) (h1 : o (k + 1) ≤ b) (h2 : ∀ j, o (k + 1) ≤ j → j < b → T j = 2) (hF : ∀ a, a < pz_P T t → F' a = F a) (hR : ∀ a, a < pz_P T t → R' a = R a)
    (hQ : ∀ j, T j = 2 → o (k + 1) ≤ j → j < b → F' (pz_AY T n 1 j) = zv_c 4 40 ∧ R' (pz_AY T n 1 j) = zv_c 3 (pz_AY T n 2 j) ∧ F' (pz_AY T n 2 j) = cd_yv T n (j + 1) ∧ R' (pz_AY T n 2 j) = zv_c 2 0)
    (hc : 2 * (b - o (k + 1)) + 2 * (k + 1) ≤ 2 * m) :
    wY_put_2 post (f + 1) (cd_yv T n (o (k + 1))) y_size (nI (pz_P T t + 2 * (b - o (k + 1)))) (nI (k + 1)) (nI fc) y_places y_procedures y_continuationCount y_things y_foundCount y_argumentCount y_value y_form y_wherein y_next y_working y_ending y_counts y_made y_entered y_printCount y_itemCount y_text (F') (R') H L y_globals y_placeNames y_placeValues y_placeNexts y_procedureForms y_procedurePlaces y_continuations y_whats y_withs y_whereins y_soFars y_afters y_found y_foundNexts y_arguments y_prints y_itemKinds y_itemNumbers y_pile := by
  have hP := pz_P_le (T := T) n hn
  have hPt : pz_P T (t + 1) = pz_P T t + (1 + 2 * pz_qn T b) := by
    have := pz_P_s hb
    rw [Nat.add_sub_cancel] at this
    exact this
  have hFm : pz_Fm T (o (k + 1)) (t + 1) := ⟨b, h1, h2, hb⟩
  have hsk := hs k hk
  have hmk := yr_sg_nmk hsk hne
  have hq := pz_qn_eq h2 hmk h1
  obtain ⟨b', x1, x2, x3, x4, x5, x6, x7, x8, _, _⟩ := yr_ad hFm ht
  have hbb : b = b' := by
    have := pz_cb_eq hb
    exact this.symm.trans x5
  subst hbb
  rw [Nat.add_sub_cancel] at x8
  rw [hq] at x8 hPt
  have hmono := pz_P_mono (T := T) ht
  generalize hcc : pz_P T t + 2 * (b - o (k + 1)) = c at *
  have hdd : pz_dd T (t + 1) = 0 ↔ k = 0 := by
    obtain ⟨g1, _, g3, _⟩ := yr_sg_l hsk hne
    rw [pz_Fm_dd hFm, g3]
    unfold yr_s
    by_cases z : k = 0
    · rw [if_pos z]
      exact ⟨fun _ => z, fun _ => rfl⟩
    · rw [if_neg z, pz_dd_o (by omega)]
      omega
  have hbd : pz_P T (t + 1) + 2 * (k + 1) ≤ 2 * (t + 1) + 2 := by omega
  have hF2 : ∀ a, a < pz_P T t → vp_updL F' c (cd_yv T n (o (k + 1))) a = F a := fun a ha => by
    rw [pk_uLn (by omega)]; exact hF a ha
  have hR2 : ∀ a, a < pz_P T t → vp_updL R' c (zv_c 2 0) a = R a := fun a ha => by
    rw [pk_uLn (by omega)]; exact hR a ha
  have hQ2 : ∀ j, T j = 2 → o (k + 1) ≤ j → pz_Fm T j (t + 1) → vp_updL F' c (cd_yv T n (o (k + 1))) (pz_AY T n 1 j) = zv_c 4 40 ∧ vp_updL R' c (zv_c 2 0) (pz_AY T n 1 j) = zv_c 3 (pz_AY T n 2 j) ∧ vp_updL F' c (cd_yv T n (o (k + 1))) (pz_AY T n 2 j) = cd_yv T n (j + 1) ∧ vp_updL R' c (zv_c 2 0) (pz_AY T n 2 j) = zv_c 2 0 := by
    intro j j1 j2 j3
    obtain ⟨b2, y1, y2, y3, y4, y5, _⟩ := yr_ad j3 ht
    have hb2 : b = b2 := x5.symm.trans y5
    subst hb2
    have hs2 := yr_sep2 hFm j3 ht j1
    rw [x8] at hs2
    rw [pk_uLn hs2.1.symm, pk_uLn hs2.1.symm, pk_uLn hs2.2.symm, pk_uLn hs2.2.symm]
    exact hQ j j1 j2 (by
      have : j ≠ b := fun z => y4 (z ▸ j1)
      omega)
  have hE2 : vp_updL F' c (cd_yv T n (o (k + 1))) (pz_AY T n 0 (o (k + 1))) = cd_yv T n (o (k + 1)) ∧ vp_updL R' c (zv_c 2 0) (pz_AY T n 0 (o (k + 1))) = zv_c 2 0 := by
    rw [x8, pk_uLs, pk_uLs]
    exact ⟨rfl, rfl⟩
  have hlow : ∀ (H' L' : Nat → Int32), (∀ i, i < k → H' i = H i ∧ L' i = L i) → yr_sg T n (fun i => if i = k + 1 then t + 1 else o i) H' L' k → ∀ i, i ≤ k → yr_sg T n (fun i => if i = k + 1 then t + 1 else o i) H' L' i := by
    intro H' L' g1 g2 i hi
    by_cases z : i = k
    · rw [z]; exact g2
    · exact yr_sg_low (hs i (by omega)) (if_neg (by omega)) (if_neg (by omega)) (g1 i (by omega)).1 (g1 i (by omega)).2
  have ek : (nI k).toNatClampNeg = k := nI_clamp (by omega)
  have hik : vp_in (nI k) 72 := vp_in_nI (by omega) (by decide)
  have hPc : pz_P T (t + 1) = c + 1 := by omega
  have hik' : vp_in (nI (k + 1) - 1) 72 := by rw [nI_pred]; exact hik
  have ek' : (nI (k + 1) - 1).toNatClampNeg = k := by rw [nI_pred, ek]
  have hne' : ¬ H (nI (k + 1) - 1).toNatClampNeg = -2 := by rw [ek']; exact hne
  refine ⟨hik', br_f hne' (ys_thing (t := 2) (k := 0) rfl rfl (by decide) (by decide) (ys_pair (py := c) (by omega) ⟨hik', ?_⟩))⟩
  obtain ⟨g1, g2, g3, g4, ⟨g5, g6, g7⟩ | ⟨e', p', g5, g6, g7, g8, g9, g10, g11⟩⟩ := yr_sg_l hsk hne
  · refine br_f (by rw [ek', g7]; decide) ⟨hik', nm_r (cl_I ek') (ys_134 (by omega) ?_)⟩
    rw [← hPc]
    refine hfin k hk _ _ _ _ (yr_put0 hH ht hFm hmk (fun q => ?_) hF2 hR2 hQ2 hE2) (hlow _ _ (fun i hi => ⟨pk_un (by omega), pk_un (by omega)⟩) ?_) hdd hbd
    · rw [← g5]; exact yr_s_nF g1 q
    · refine yr_sg_put hsk hne hFm ht (if_neg (by omega)) (if_pos rfl) (by rw [pk_us, x8]) (by rw [pk_us, g7, if_pos rfl, x8]) (by omega)
  · have hl := yr_lt (n := n) (t := t) g7 (by have := pz_Fm_lt hFm; omega) (by have := pz_Fm_lt hFm; omega)
    have ep : (L (nI (k + 1) - 1).toNatClampNeg).toNatClampNeg = pz_AY T n 0 p' := by rw [ek', g11]; exact nI_clamp (by omega)
    refine br_t (by rw [ek', g11]; exact nI_pos' (by omega)) ⟨hik', ys_thing (t := 3) (k := c) rfl rfl (by decide) (by omega) ⟨by rw [ek', g11]; exact vp_in_nI (by omega) (by decide), nm_r (cl_L ep) (ys_134 (by omega) ?_)⟩⟩
    rw [← hPc]
    refine hfin k hk _ _ _ _ ?_ (hlow _ _ (fun i hi => ⟨rfl, pk_un (by omega)⟩) ?_) hdd hbd
    · have := yr_put1 hH ht hFm hmk g7 g9 hF2 hR2 hQ2 hE2
      rw [x8] at this
      exact this
    · refine yr_sg_put hsk hne hFm ht (if_neg (by omega)) (if_pos rfl) (by rw [pk_us, x8]) (by rw [g11, if_neg (yr_n2 (by omega)).2]) (by omega)
theorem ys_put_l {post : SY → Prop} (hn : n ≤ 70) (ht : t + 1 ≤ n)
    (hb : (3 ≤ T b ∧ t + 1 = b + 1) ∨ (T b = 0 ∧ b + 1 < t + 1 ∧ T (t + 1 - 1) = 1 ∧ pz_dd T (t + 1) = pz_dd T b ∧ ∀ j, b < j → j < t + 1 → pz_dd T b < pz_dd T j))
    (hs : ∀ k, k < m → yr_sg T n o H L k) (ho : ∀ k, k ≤ m → o k ≤ t) (hH : yr_H T n t F R) (hm : m ≤ 71) (hB : pz_P T t + 2 * m ≤ 2 * t + 2)
    (hfin : ∀ k, k < m → ∀ H' L' F' R', yr_H T n (t + 1) F' R' → (∀ i, i ≤ k → yr_sg T n (fun i => if i = k + 1 then t + 1 else o i) H' L' i) → (pz_dd T (t + 1) = 0 ↔ k = 0) → pz_P T (t + 1) + 2 * (k + 1) ≤ 2 * (t + 1) + 2 →
      post (y_size, nI (pz_P T (t + 1)), nI (k + 1), nI (if k = 0 then fc + 1 else fc), y_places, y_procedures, y_continuationCount, y_things, y_foundCount, y_argumentCount, y_value, y_form, y_wherein, y_next, y_working, y_ending, y_counts, y_made, y_entered, y_printCount, y_itemCount, y_text, F', R', H', L', y_globals, y_placeNames, y_placeValues, y_placeNexts, y_procedureForms, y_procedurePlaces, y_continuations, y_whats, y_withs, y_whereins, y_soFars, y_afters, y_found, y_foundNexts, y_arguments, y_prints, y_itemKinds, y_itemNumbers, y_pile)) :
    ∀ k, k < m → o (k + 1) ≤ b → (∀ j, o (k + 1) ≤ j → j < b → T j = 2) → ∀ F' R', (∀ a, a < pz_P T t → F' a = F a) → (∀ a, a < pz_P T t → R' a = R a) →
      (∀ j, T j = 2 → o (k + 1) ≤ j → j < b → F' (pz_AY T n 1 j) = zv_c 4 40 ∧ R' (pz_AY T n 1 j) = zv_c 3 (pz_AY T n 2 j) ∧ F' (pz_AY T n 2 j) = cd_yv T n (j + 1) ∧ R' (pz_AY T n 2 j) = zv_c 2 0) →
      2 * (b - o (k + 1)) + 2 * (k + 1) ≤ 2 * m →
      wY_put_2 post (k + 2) (cd_yv T n (o (k + 1))) y_size (nI (pz_P T t + 2 * (b - o (k + 1)))) (nI (k + 1)) (nI fc) y_places y_procedures y_continuationCount y_things y_foundCount y_argumentCount y_value y_form y_wherein y_next y_working y_ending y_counts y_made y_entered y_printCount y_itemCount y_text (F') (R') H L y_globals y_placeNames y_placeValues y_placeNexts y_procedureForms y_procedurePlaces y_continuations y_whats y_withs y_whereins y_soFars y_afters y_found y_foundNexts y_arguments y_prints y_itemKinds y_itemNumbers y_pile := by
  intro k
  have hP := pz_P_le (T := T) n hn
  induction k with
  | zero =>
    intro hk h1 h2 F' R' hF hR hQ hc
    by_cases hne : H 0 = -2
    · have := (yr_sg_q (hs 0 hk) hne (by have := ho 1 (by omega); omega) (by omega)).1
      omega
    · exact ys_put_e hn ht hb hs ho hH hm hB hfin hk hne h1 h2 hF hR hQ hc
  | succ k ih =>
    intro hk h1 h2 F' R' hF hR hQ hc
    by_cases hne : H (k + 1) = -2
    · obtain ⟨_, q1, q2⟩ := yr_sg_q (hs (k + 1) hk) hne (by have := ho (k + 2) (by omega); omega) (by omega)
      have hq : ∀ j, o (k + 1) ≤ j → j < b → T j = 2 := by
        intro j j1 j2
        by_cases z : j = o (k + 1)
        · rw [z]; exact q1
        · exact h2 j (by omega) j2
      have hFm : pz_Fm T (o (k + 1)) (t + 1) := ⟨b, by omega, hq, hb⟩
      obtain ⟨b', x1, x2, x3, x4, x5, x6, x7, _, x9, x10⟩ := yr_ad hFm ht
      have hbb : b = b' := by
        have := pz_cb_eq hb
        exact this.symm.trans x5
      subst hbb
      rw [Nat.add_sub_cancel] at x9 x10
      have hc0 : pz_P T t + 2 * (b - o (k + 1 + 1)) = pz_AY T n 2 (o (k + 1)) := by rw [x10]; omega
      have hc1 : pz_AY T n 1 (o (k + 1)) = pz_AY T n 2 (o (k + 1)) + 1 := by omega
      have hc2 : pz_P T t + 2 * (b - o (k + 1)) = pz_AY T n 2 (o (k + 1)) + 1 + 1 := by omega
      have hlt : pz_AY T n 2 (o (k + 1)) < 200 := by omega
      have hge : pz_P T t ≤ pz_AY T n 2 (o (k + 1)) := by omega
      have hv : cd_yv T n (o (k + 1)) = zv_c 3 (pz_AY T n 1 (o (k + 1))) := cd_yv_2 q1
      have ek : (nI (k + 1)).toNatClampNeg = k + 1 := nI_clamp (by omega)
      have hik : vp_in (nI (k + 1)) 72 := vp_in_nI (by omega) (by decide)
      have hrec := ih (by omega) (by omega) hq
        (vp_updL (vp_updL F' (pz_AY T n 2 (o (k + 1))) (cd_yv T n (o (k + 1 + 1)))) (pz_AY T n 2 (o (k + 1)) + 1) (zv_c 4 40))
        (vp_updL (vp_updL R' (pz_AY T n 2 (o (k + 1))) (zv_c 2 0)) (pz_AY T n 2 (o (k + 1)) + 1) (zv_c 3 (pz_AY T n 2 (o (k + 1)))))
        (fun a ha => by rw [pk_uLn (by omega), pk_uLn (by omega)]; exact hF a ha)
        (fun a ha => by rw [pk_uLn (by omega), pk_uLn (by omega)]; exact hR a ha)
        (fun j j1 j2 j3 => by
          by_cases z : j = o (k + 1)
          · subst z
            rw [hc1, pk_uLs, pk_uLs, pk_uLn (by omega), pk_uLs, pk_uLn (by omega), pk_uLs, q2]
            exact ⟨rfl, rfl, rfl, rfl⟩
          · have hFj : pz_Fm T j (t + 1) := ⟨b, by omega, fun i i1 i2 => hq i (by omega) i2, hb⟩
            obtain ⟨b2, y1, y2, y3, y4, y5, _, _, _, y9, y10⟩ := yr_ad hFj ht
            have hb2 : b = b2 := x5.symm.trans y5
            subst hb2
            rw [Nat.add_sub_cancel] at y9 y10
            rw [pk_uLn (by omega), pk_uLn (by omega), pk_uLn (by omega), pk_uLn (by omega), pk_uLn (by omega), pk_uLn (by omega), pk_uLn (by omega), pk_uLn (by omega)]
            exact hQ j j1 (by omega) j3)
        (by omega)
      rw [hc2, hv, hc1] at hrec
      have hik' : vp_in (nI (k + 1 + 1) - 1) 72 := by rw [nI_pred]; exact hik
      have hne' : H (nI (k + 1 + 1) - 1).toNatClampNeg = -2 := by rw [nI_pred, ek]; exact hne
      rw [hc0]
      refine ⟨hik', br_t hne' (ys_thing (t := 2) (k := 0) rfl rfl (by decide) (by decide) (ys_pair (by omega) (ys_thing (t := 3) rfl rfl (by decide) (by omega) (ys_thing (t := 4) (k := 40) rfl rfl (by decide) (by decide)
        (ys_pair (by omega) (ys_thing (t := 3) rfl rfl (by decide) (by omega) (nm_r (nI_pred _) hrec)))))))⟩
    · exact ys_put_e hn ht hb hs ho hH hm hB hfin hk hne h1 h2 hF hR hQ hc
end
end
section
/-! Y: reading the text -/
section
variable {y_size : Int32} {y_pairs : Int32} {y_open : Int32} {y_formCount : Int32} {y_places : Int32} {y_procedures : Int32} {y_continuationCount : Int32} {y_things : Int32} {y_foundCount : Int32} {y_argumentCount : Int32} {y_value : Int64} {y_form : Int64} {y_wherein : Int32} {y_next : Int32} {y_working : Int32} {y_ending : Int32} {y_counts : Int32} {y_made : Int32} {y_entered : Int32} {y_printCount : Int32} {y_itemCount : Int32} {y_text : Nat → Int32} {y_firsts : Nat → Int64} {y_rests : Nat → Int64} {y_heads : Nat → Int32} {y_lasts : Nat → Int32} {y_globals : Nat → Int64} {y_placeNames : Nat → Int32} {y_placeValues : Nat → Int64} {y_placeNexts : Nat → Int32} {y_procedureForms : Nat → Int64} {y_procedurePlaces : Nat → Int32} {y_continuations : Nat → Int32} {y_whats : Nat → Int32} {y_withs : Nat → Int64} {y_whereins : Nat → Int32} {y_soFars : Nat → Int32} {y_afters : Nat → Int32} {y_found : Nat → Int64} {y_foundNexts : Nat → Int32} {y_arguments : Nat → Int64} {y_prints : Nat → Int32} {y_itemKinds : Nat → Int32} {y_itemNumbers : Nat → Int32} {y_pile : Nat → Int64}
variable {T : Nat → Nat} {n : Nat}
theorem pz_ww_s {t : Nat} {k : Nat} (h : pz_dd T (t + 1) = 0 ↔ k = 0) (h2 : T t ≠ 2) : pz_ww T (t + 1) = if k = 0 then pz_ww T t + 1 else pz_ww T t := by
  rw [pz_ww]
  by_cases c : k = 0
  · rw [if_pos ⟨h.mpr c, h2⟩, if_pos c]
  · rw [if_neg (fun z => c (h.mp z.1)), if_neg c]
theorem ys_atom {post : Int64 → Prop} {t : Nat} (ht : zv_tk t) (h3 : 3 ≤ t) (h : post (zv_yA t)) : wpY_atom post (y_size, y_pairs, y_open, y_formCount, y_places, y_procedures, y_continuationCount, y_things, y_foundCount, y_argumentCount, y_value, y_form, y_wherein, y_next, y_working, y_ending, y_counts, y_made, y_entered, y_printCount, y_itemCount, y_text, y_firsts, y_rests, y_heads, y_lasts, y_globals, y_placeNames, y_placeValues, y_placeNexts, y_procedureForms, y_procedurePlaces, y_continuations, y_whats, y_withs, y_whereins, y_soFars, y_afters, y_found, y_foundNexts, y_arguments, y_prints, y_itemKinds, y_itemNumbers, y_pile) (nI t) := by
  unfold zv_tk at ht
  unfold zv_yA at h
  by_cases c : t < 10
  · rw [if_pos c] at h
    refine br_f (nI_ge (b := 10) c (by decide)) ?_
    by_cases c3 : t = 3
    · subst c3
      exact br_t rfl (ys_thing (t := 1) (k := 1) rfl rfl (by decide) (by decide) h)
    · rw [if_neg c3] at h
      exact br_f (fun z => c3 ((nI_eq (a := t) (b := 3) (by omega) (by omega)).mp z)) (ys_thing (t := 1) (k := 0) rfl rfl (by decide) (by decide) h)
  · rw [if_neg c] at h
    refine br_t (nI_le (a := 10) (by omega) (by omega)) ?_
    by_cases c3 : t < 30
    · rw [if_pos c3] at h
      exact br_f (nI_ge (b := 30) c3 (by decide)) (ys_thing (t := 0) (k := t - 10) rfl (pk_sub (a := t) (b := 10) (by omega)) (by decide) (by omega) h)
    · rw [if_neg c3] at h
      exact br_t (nI_le (a := 30) (by omega) (by omega)) (ys_thing (t := 4) (k := t) rfl rfl (by decide) (by omega) h)
theorem ys_openList {post : SY → Prop} {m : Nat} {z : Int32} (h : m < 72) (hp : post (y_size, y_pairs, nI (m + 1), y_formCount, y_places, y_procedures, y_continuationCount, y_things, y_foundCount, y_argumentCount, y_value, y_form, y_wherein, y_next, y_working, y_ending, y_counts, y_made, y_entered, y_printCount, y_itemCount, y_text, y_firsts, y_rests, upd y_heads m z, upd y_lasts m (-1), y_globals, y_placeNames, y_placeValues, y_placeNexts, y_procedureForms, y_procedurePlaces, y_continuations, y_whats, y_withs, y_whereins, y_soFars, y_afters, y_found, y_foundNexts, y_arguments, y_prints, y_itemKinds, y_itemNumbers, y_pile)) : wpY_openList post (y_size, y_pairs, nI m, y_formCount, y_places, y_procedures, y_continuationCount, y_things, y_foundCount, y_argumentCount, y_value, y_form, y_wherein, y_next, y_working, y_ending, y_counts, y_made, y_entered, y_printCount, y_itemCount, y_text, y_firsts, y_rests, y_heads, y_lasts, y_globals, y_placeNames, y_placeValues, y_placeNexts, y_procedureForms, y_procedurePlaces, y_continuations, y_whats, y_withs, y_whereins, y_soFars, y_afters, y_found, y_foundNexts, y_arguments, y_prints, y_itemKinds, y_itemNumbers, y_pile) z := by
  have hi : vp_in (nI m) 72 := vp_in_nI h (by decide)
  have e : (nI m).toNatClampNeg = m := nI_clamp (by omega)
  exact ⟨hi, nm_r (cl_I e) ⟨hi, nm_r (cl_I e) (nm_r (nI_1 m) hp)⟩⟩
theorem ys_rd {post : Int32 → SY → Prop} (hn : n ≤ 70) (hT : ∀ i, i < n → zv_tk (T i) ∧ y_text i = nI (T i))
    (h1 : pz_Rd T n → ∀ F R H L, yr_H T n n F R → (0 < n → H 0 = nI (pz_AY T n 0 0)) → pz_P T n ≤ 2 * n → post 1 (nI n, nI (pz_P T n), 1, nI (pz_ww T n), y_places, y_procedures, y_continuationCount, y_things, y_foundCount, y_argumentCount, y_value, y_form, y_wherein, y_next, y_working, y_ending, y_counts, y_made, y_entered, y_printCount, y_itemCount, y_text, F, R, H, L, y_globals, y_placeNames, y_placeValues, y_placeNexts, y_procedureForms, y_procedurePlaces, y_continuations, y_whats, y_withs, y_whereins, y_soFars, y_afters, y_found, y_foundNexts, y_arguments, y_prints, y_itemKinds, y_itemNumbers, y_pile))
    (h2 : ¬ pz_Rd T n → ∀ a b c F R H L, post 0 (nI n, a, b, c, y_places, y_procedures, y_continuationCount, y_things, y_foundCount, y_argumentCount, y_value, y_form, y_wherein, y_next, y_working, y_ending, y_counts, y_made, y_entered, y_printCount, y_itemCount, y_text, F, R, H, L, y_globals, y_placeNames, y_placeValues, y_placeNexts, y_procedureForms, y_procedurePlaces, y_continuations, y_whats, y_withs, y_whereins, y_soFars, y_afters, y_found, y_foundNexts, y_arguments, y_prints, y_itemKinds, y_itemNumbers, y_pile)) :
    ∀ d t, t + d = n → (∀ j, j < t → pz_ok T j) → ∀ m o H L F R, 1 ≤ m → m ≤ t + 1 → o m = t → (∀ k, k ≤ m → o k ≤ t) → (∀ k, k < m → yr_sg T n o H L k) → yr_H T n t F R → pz_P T t + 2 * m ≤ 2 * t + 2 →
      wY_read_22 post (d + 1) (nI t) (nI n) (nI (pz_P T t)) (nI m) (nI (pz_ww T t)) y_places y_procedures y_continuationCount y_things y_foundCount y_argumentCount y_value y_form y_wherein y_next y_working y_ending y_counts y_made y_entered y_printCount y_itemCount y_text F R H L y_globals y_placeNames y_placeValues y_placeNexts y_procedureForms y_procedurePlaces y_continuations y_whats y_withs y_whereins y_soFars y_afters y_found y_foundNexts y_arguments y_prints y_itemKinds y_itemNumbers y_pile := by
  have hP := pz_P_le (T := T) n hn
  intro d
  induction d with
  | zero =>
    intro t ht hok m o H L F R m1 m2 om ho hs hH hB
    have htn : t = n := by omega
    subst htn
    refine br_t (nI_le (Nat.le_refl _) (by omega)) ?_
    by_cases c : m = 1
    · subst c
      have s0 := hs 0 (by omega)
      have top := yr_top0 s0
      rw [om] at top
      refine br_t rfl (h1 ⟨hok, top⟩ F R H L hH (fun hn0 => ?_) (by omega))
      rcases s0 with ⟨a, _⟩ | ⟨_, _, _, _, ⟨a, _⟩ | ⟨e, p, a1, a2, a3, a4, a5, a6, a7⟩⟩
      · omega
      · have h0 : 0 = o 1 := a
        omega
      · exact a6
    · refine br_f (fun z => c ((nI_eq (a := m) (b := 1) (by omega) (by omega)).mp z)) (h2 (fun hR => ?_) _ _ _ F R H L)
      have sk := hs (m - 1) (by omega)
      have om' : o (m - 1 + 1) = t := by rw [show m - 1 + 1 = m by omega]; exact om
      by_cases hne : H (m - 1) = -2
      · have := yr_topq sk hne (by omega) (by omega)
        rw [om'] at this
        exact hR.2.2 this
      · have := yr_topl sk hne (by omega)
        rw [om', hR.2.1] at this
        omega
  | succ d ih =>
    intro t ht hok m o H L F R m1 m2 om ho hs hH hB
    obtain ⟨tk, te⟩ := hT t (by omega)
    have tl : T t < 100 := by unfold zv_tk at tk; omega
    have ec : (nI t).toNatClampNeg = t := nI_clamp (by omega)
    have okn : pz_ok T t → ∀ j, j < t + 1 → pz_ok T j := by
      intro z j hj
      by_cases y : j = t
      · rw [y]; exact z
      · exact hok j (by omega)
    refine br_f (nI_ge (by omega) (by omega)) ⟨vp_in_nI (by omega) (by decide), nm_r ((cl_R ec).trans te) ?_⟩
    -- a token that begins something
    have hbeg : ∀ z, (T t = 0 ∧ z = -1) ∨ (T t = 2 ∧ z = -2) → wY_read_57 post (wY_read_22 post (d + 1)) (nI t) z (nI n) (nI (pz_P T t)) (nI m) (nI (pz_ww T t)) y_places y_procedures y_continuationCount y_things y_foundCount y_argumentCount y_value y_form y_wherein y_next y_working y_ending y_counts y_made y_entered y_printCount y_itemCount y_text F R H L y_globals y_placeNames y_placeValues y_placeNexts y_procedureForms y_procedurePlaces y_continuations y_whats y_withs y_whereins y_soFars y_afters y_found y_foundNexts y_arguments y_prints y_itemKinds y_itemNumbers y_pile := by
      intro z hz
      unfold wY_read_57
      refine ys_openList (by omega) (nm_r (nI_1 t) ?_)
      have hPs : pz_P T (t + 1) = pz_P T t := by rw [pz_P, if_pos (by omega)]; rfl
      have hws : pz_ww T (t + 1) = pz_ww T t := by
        rw [pz_ww, if_neg]
        intro y
        rcases hz with hz | hz
        · rw [pz_dd_o hz.1] at y; omega
        · exact y.2 hz.1
      have := ih (t + 1) (by omega) (okn (fun y => by omega)) (m + 1) (fun i => if i = m + 1 then t + 1 else o i) (upd H m z) (upd L m (-1)) F R (by omega) (by omega) (if_pos rfl)
        (fun k hk => by
          split
          · omega
          · have := ho k (by omega); omega)
        (fun k hk => by
          by_cases y : k = m
          · subst y
            have e1 : (fun i => if i = k + 1 then t + 1 else o i) k = t := by
              dsimp only
              rw [if_neg (by omega), om]
            have e2 : (fun i => if i = k + 1 then t + 1 else o i) (k + 1) = t + 1 := if_pos rfl
            have e3 : yr_s (fun i => if i = k + 1 then t + 1 else o i) k = t + 1 := by
              unfold yr_s
              rw [if_neg (by omega), e1]
            unfold yr_sg
            rw [e1, e2, e3, pk_us, pk_us]
            rcases hz with ⟨z1, z2⟩ | ⟨z1, z2⟩
            · exact Or.inr ⟨Or.inr z1, Nat.le_refl _, rfl, fun j j1 j2 => by rw [show j = t + 1 by omega]; exact Nat.le_refl _, Or.inl ⟨rfl, z2, rfl⟩⟩
            · exact Or.inl ⟨m1, z1, z2, rfl⟩
          · exact yr_sg_low (hs k (by omega)) (if_neg (by omega)) (if_neg (by omega)) (pk_un y) (pk_un y))
        (yr_Hs hH (by omega)) (by omega)
      rw [hPs, hws] at this
      exact this
    have hput : ∀ m' b, m' ≤ m → 1 ≤ m' → o m' = b → pz_ok T t → T t ≠ 2 → ((3 ≤ T b ∧ t + 1 = b + 1) ∨ (T b = 0 ∧ b + 1 < t + 1 ∧ T (t + 1 - 1) = 1 ∧ pz_dd T (t + 1) = pz_dd T b ∧ ∀ j, b < j → j < t + 1 → pz_dd T b < pz_dd T j)) →
        wpY_put (fun u => match u with | (y_size, y_pairs, y_open, y_formCount, y_places, y_procedures, y_continuationCount, y_things, y_foundCount, y_argumentCount, y_value, y_form, y_wherein, y_next, y_working, y_ending, y_counts, y_made, y_entered, y_printCount, y_itemCount, y_text, y_firsts, y_rests, y_heads, y_lasts, y_globals, y_placeNames, y_placeValues, y_placeNexts, y_procedureForms, y_procedurePlaces, y_continuations, y_whats, y_withs, y_whereins, y_soFars, y_afters, y_found, y_foundNexts, y_arguments, y_prints, y_itemKinds, y_itemNumbers, y_pile) => ∀ x : Int32, x = nI t + 1 → wY_read_22 post (d + 1) x y_size y_pairs y_open y_formCount y_places y_procedures y_continuationCount y_things y_foundCount y_argumentCount y_value y_form y_wherein y_next y_working y_ending y_counts y_made y_entered y_printCount y_itemCount y_text y_firsts y_rests y_heads y_lasts y_globals y_placeNames y_placeValues y_placeNexts y_procedureForms y_procedurePlaces y_continuations y_whats y_withs y_whereins y_soFars y_afters y_found y_foundNexts y_arguments y_prints y_itemKinds y_itemNumbers y_pile) (nI n, nI (pz_P T t), nI m', nI (pz_ww T t), y_places, y_procedures, y_continuationCount, y_things, y_foundCount, y_argumentCount, y_value, y_form, y_wherein, y_next, y_working, y_ending, y_counts, y_made, y_entered, y_printCount, y_itemCount, y_text, F, R, H, L, y_globals, y_placeNames, y_placeValues, y_placeNexts, y_procedureForms, y_procedurePlaces, y_continuations, y_whats, y_withs, y_whereins, y_soFars, y_afters, y_found, y_foundNexts, y_arguments, y_prints, y_itemKinds, y_itemNumbers, y_pile) (cd_yv T n b) := by
      intro m' b g1 g2 g3 g4 g5 g6
      obtain ⟨k, rfl⟩ : ∃ k, m' = k + 1 := ⟨m' - 1, by omega⟩
      have hl := ys_put_l (post := fun u => match u with | (y_size, y_pairs, y_open, y_formCount, y_places, y_procedures, y_continuationCount, y_things, y_foundCount, y_argumentCount, y_value, y_form, y_wherein, y_next, y_working, y_ending, y_counts, y_made, y_entered, y_printCount, y_itemCount, y_text, y_firsts, y_rests, y_heads, y_lasts, y_globals, y_placeNames, y_placeValues, y_placeNexts, y_procedureForms, y_procedurePlaces, y_continuations, y_whats, y_withs, y_whereins, y_soFars, y_afters, y_found, y_foundNexts, y_arguments, y_prints, y_itemKinds, y_itemNumbers, y_pile) => ∀ x : Int32, x = nI t + 1 → wY_read_22 post (d + 1) x y_size y_pairs y_open y_formCount y_places y_procedures y_continuationCount y_things y_foundCount y_argumentCount y_value y_form y_wherein y_next y_working y_ending y_counts y_made y_entered y_printCount y_itemCount y_text y_firsts y_rests y_heads y_lasts y_globals y_placeNames y_placeValues y_placeNexts y_procedureForms y_procedurePlaces y_continuations y_whats y_withs y_whereins y_soFars y_afters y_found y_foundNexts y_arguments y_prints y_itemKinds y_itemNumbers y_pile) (y_size := nI n) (fc := pz_ww T t) hn (show t + 1 ≤ n by omega) g6 (fun i hi => hs i (show i < m by omega)) (fun i hi => ho i (show i ≤ m by omega)) hH (show k + 1 ≤ 71 by omega) (by omega)
        (fun i hi H' L' F' R' q1 q2 q3 q4 => nm_r (nI_1 t) (by
          have := ih (t + 1) (by omega) (okn g4) (i + 1) (fun j => if j = i + 1 then t + 1 else o j) H' L' F' R' (by omega) (by omega) (if_pos rfl)
            (fun j hj => by
              split
              · omega
              · have := ho j (by omega); omega)
            (fun j hj => q2 j (by omega)) q1 q4
          rw [pz_ww_s q3 g5] at this
          exact this)) k (by omega) (by omega) (fun j j1 j2 => by omega) F R (fun _ _ => rfl) (fun _ _ => rfl) (fun j _ j1 j2 => by omega) (by omega)
      rw [g3, Nat.sub_self] at hl
      exact ⟨k + 2, hl⟩
    by_cases c0 : T t = 0
    · rw [c0]
      exact br_t rfl (br_t rfl (hbeg _ (Or.inl ⟨c0, rfl⟩)))
    · refine br_f (fun z => c0 ((nI_eq (a := T t) (b := 0) (by omega) (by omega)).mp z)) ?_
      by_cases c2 : T t = 2
      · rw [c2]
        exact br_t rfl (br_f (by decide) (hbeg _ (Or.inr ⟨c2, rfl⟩)))
      · refine br_f (fun z => c2 ((nI_eq (a := T t) (b := 2) (by omega) (by omega)).mp z)) ?_
        by_cases c1 : T t = 1
        · rw [c1]
          refine br_t rfl ?_
          by_cases cm : m = 1
          · subst cm
            have top := yr_top0 (hs 0 (by omega))
            rw [om] at top
            exact br_t rfl (h2 (fun hR => by have := (hR.1 t (by omega) c1).1; omega) _ _ _ F R H L)
          · refine br_f (fun z => cm ((nI_eq (a := m) (b := 1) (by omega) (by omega)).mp z)) ?_
            obtain ⟨k, rfl⟩ : ∃ k, m = k + 1 := ⟨m - 1, by omega⟩
            have sk := hs k (by omega)
            have ek : (nI k).toNatClampNeg = k := nI_clamp (by omega)
            rw [nI_pred, ek]
            refine ⟨vp_in_nI (by omega) (by decide), ?_⟩
            by_cases hne : H k = -2
            · have hm := yr_topq sk hne (by omega) (by omega)
              rw [om] at hm
              exact br_t hne (h2 (fun hR => (hR.1 t (by omega) c1).2 hm) _ _ _ F R H L)
            · have hd := yr_topl sk hne (by omega)
              have hnm := yr_sg_nmk sk hne
              rw [om] at hd hnm
              have hcl := yr_close sk hne (by omega) om c1
              have hv : cd_yv T n (o k) = cd_yl T n (yr_s o k) := by
                unfold yr_s
                rw [if_neg (by omega)]
                exact cd_yv_0 hcl.1
              have hpp := hput k (o k) (by omega) (by omega) rfl (fun _ => ⟨hd, hnm⟩) c2 (Or.inr hcl)
              refine br_f hne (nm_e ⟨vp_in_nI (by omega) (by decide), ?_⟩)
              rw [ek]
              rcases yr_clist sk hne om (by omega) c1 with ⟨q1, q2⟩ | ⟨q1, q2, q3⟩
              · rw [q1]
                rw [hv, q2] at hpp
                exact br_f (by decide) (ys_thing (t := 2) (k := 0) rfl rfl (by decide) (by decide) hpp)
              · have := pz_P_mono (T := T) (show t ≤ n by omega)
                rw [q1]
                rw [hv, q2] at hpp
                exact br_t (nI_pos' (by omega)) (ys_thing (t := 3) rfl rfl (by decide) (by omega) hpp)
        · refine br_f (fun z => c1 ((nI_eq (a := T t) (b := 1) (by omega) (by omega)).mp z)) ?_
          have hpp := hput m t (Nat.le_refl _) m1 om (fun z => absurd z c1) c2 (Or.inl ⟨by omega, rfl⟩)
          rw [cd_yv_a (by omega)] at hpp
          exact ys_atom tk (by omega) hpp
theorem ys_read {post : Int32 → SY → Prop} (hn : n ≤ 70) (hT : ∀ i, i < n → zv_tk (T i) ∧ y_text i = nI (T i))
    (h1 : pz_Rd T n → ∀ F R H L, yr_H T n n F R → (0 < n → H 0 = nI (pz_AY T n 0 0)) → pz_P T n ≤ 2 * n → post 1 (nI n, nI (pz_P T n), 1, nI (pz_ww T n), y_places, y_procedures, y_continuationCount, y_things, y_foundCount, y_argumentCount, y_value, y_form, y_wherein, y_next, y_working, y_ending, y_counts, y_made, y_entered, y_printCount, y_itemCount, y_text, F, R, H, L, y_globals, y_placeNames, y_placeValues, y_placeNexts, y_procedureForms, y_procedurePlaces, y_continuations, y_whats, y_withs, y_whereins, y_soFars, y_afters, y_found, y_foundNexts, y_arguments, y_prints, y_itemKinds, y_itemNumbers, y_pile))
    (h2 : ¬ pz_Rd T n → ∀ a b c F R H L, post 0 (nI n, a, b, c, y_places, y_procedures, y_continuationCount, y_things, y_foundCount, y_argumentCount, y_value, y_form, y_wherein, y_next, y_working, y_ending, y_counts, y_made, y_entered, y_printCount, y_itemCount, y_text, F, R, H, L, y_globals, y_placeNames, y_placeValues, y_placeNexts, y_procedureForms, y_procedurePlaces, y_continuations, y_whats, y_withs, y_whereins, y_soFars, y_afters, y_found, y_foundNexts, y_arguments, y_prints, y_itemKinds, y_itemNumbers, y_pile)) : wpY_read post (nI n, y_pairs, y_open, y_formCount, y_places, y_procedures, y_continuationCount, y_things, y_foundCount, y_argumentCount, y_value, y_form, y_wherein, y_next, y_working, y_ending, y_counts, y_made, y_entered, y_printCount, y_itemCount, y_text, y_firsts, y_rests, y_heads, y_lasts, y_globals, y_placeNames, y_placeValues, y_placeNexts, y_procedureForms, y_procedurePlaces, y_continuations, y_whats, y_withs, y_whereins, y_soFars, y_afters, y_found, y_foundNexts, y_arguments, y_prints, y_itemKinds, y_itemNumbers, y_pile) := by
  unfold wpY_read
  refine ys_openList (m := 0) (by decide) ?_
  refine ⟨n + 1, ?_⟩
  exact ys_rd hn hT h1 h2 n 0 (by omega) (fun j hj => by omega) 1 (fun _ => 0) _ _ y_firsts y_rests (Nat.le_refl _) (by omega) rfl (fun k hk => Nat.le_refl _)
    (fun k hk => by
      have hk0 : k = 0 := by omega
      subst hk0
      exact Or.inr ⟨Or.inl rfl, Nat.le_refl _, rfl, fun j j1 j2 => by rw [show j = 0 from Nat.le_zero.mp j2]; exact Nat.le_refl _, Or.inl ⟨rfl, pk_us, pk_us⟩⟩) yr_H0 (by rw [pz_P]; omega)
end
end
section
/-! the relation between calls; tokens, untoken, clear, reads, forms -/
def i_Rel (k : Nat) (u : SX) (v : SY) : Prop := ∃ T n, tx_R T n u v
theorem i_up {k : Nat} {u : SX} {v : SY} (h : i_Rel k u v) : i_Rel (k + 5) u v := h
theorem i_vc0 : wpX_init (fun u => wpY_init (fun v => i_Rel 0 u v)) := ⟨fun _ => 0, 0, by omega, fun i hi => by omega, rfl, rfl, fun i hi => by omega⟩
def ap_c (x : Int32) : Nat := if x = -1 then 0 else 1
def ap_a (A : Nat → Int32) (n : Nat) (x : Int32) : Nat → Int32 := if x = -1 then A else upd A n x
def ap_v (x : Int32) : Prop := x = -1 ∨ ∃ k, zv_tk k ∧ x = nI k
theorem ap_br {x : Int32} {A : Int32 → Prop} (h : A (nI (ap_c x))) : (x = -1 → A 0) ∧ (¬ x = -1 → A 1) := by
  unfold ap_c at h
  by_cases c : x = -1
  · rw [if_pos c] at h; exact br_t c h
  · rw [if_neg c] at h; exact br_f c h
theorem ap_m1 {k : Nat} (h : k < 2 ^ 31) : nI k ≠ -1 := fun z => nI_pos h (by rw [z]; decide)
theorem ap_v_neg {x : Int32} (h : x < 0) (h1 : x ≠ -1) : ¬ ap_v x ∧ x < -1 := by
  constructor
  · rintro (z | ⟨k, hk, z⟩)
    · exact h1 z
    · unfold zv_tk at hk
      rw [z] at h
      exact nI_pos (by omega) h
  · rw [Int32.lt_iff_toInt_lt] at h ⊢
    have e0 : (0 : Int32).toInt = 0 := by decide
    have e1 : (-1 : Int32).toInt = -1 := by decide
    have : x.toInt ≠ -1 := fun z => h1 (Int32.toInt_inj.mp (by rw [z, e1]))
    omega
theorem ap_v_nI {k : Nat} (h : k < 2 ^ 31) : ap_v (nI k) ↔ zv_tk k := by
  constructor
  · rintro (z | ⟨j, hj, z⟩)
    · exact absurd z (ap_m1 h)
    · have : j < 2 ^ 31 := by unfold zv_tk at hj; omega
      rw [(nI_eq h this).mp z]; exact hj
  · exact fun z => Or.inr ⟨k, z, rfl⟩
theorem xs_tok (x : Int32) {post : Int32 → Prop} (h1 : ap_v x → post 1) (h0 : ¬ ap_v x → post 0) : wpX_isTokenOrAbsent post x := by
  unfold wpX_isTokenOrAbsent wX_isTokenOrAbsent_10 wX_isTokenOrAbsent_22
  by_cases hneg : x < 0
  · by_cases hm : x = -1
    · subst hm
      exact br_f (by decide) (br_t (by decide) (h1 (Or.inl rfl)))
    · obtain ⟨nv, hl⟩ := ap_v_neg hneg hm
      have l10 : x < 10 := Int32.lt_trans hneg (by decide)
      have l50 : x < 50 := Int32.lt_trans hneg (by decide)
      exact br_t hl (br_t l10 (br_t l50 (h0 nv)))
  · obtain ⟨k, hk, rfl⟩ := nI_of hneg
    rw [ap_v_nI hk] at h1 h0
    unfold zv_tk at h1 h0
    have hm : ¬ nI k < -1 := fun z => nI_pos hk (Int32.lt_trans z (by decide))
    refine br_f hm (pk_le k 4 (fun _ => h1 (by omega)) (fun _ => pk_lt k 10 (fun _ => pk_lt k 50 (fun _ => h0 (by omega)) (fun _ => pk_lt 64 k (fun _ => h0 (by omega)) (fun _ => h1 (by omega)))) (fun _ => pk_le k 45 (fun _ => h1 (by omega)) (fun _ => pk_lt k 50 (fun _ => h0 (by omega)) (fun _ => pk_lt 64 k (fun _ => h0 (by omega)) (fun _ => h1 (by omega)))))))
section
variable {x_textLength : Int32} {x_pairCount : Int32} {x_placeCount : Int32} {x_procedureCount : Int32} {x_continuationCount : Int32} {x_frameCount : Int32} {x_state : Int32} {x_ending : Int32} {x_form : Int64} {x_environment : Int32} {x_frame : Int32} {x_value : Int64} {x_applied : Int64} {x_argumentCount : Int32} {x_countedCount : Int32} {x_consCount : Int32} {x_entryCount : Int32} {x_outputCount : Int32} {x_itemCount : Int32} {x_text : Nat → Int32} {x_firsts : Nat → Int64} {x_rests : Nat → Int64} {x_placeNames : Nat → Int32} {x_placeValues : Nat → Int64} {x_placeOuters : Nat → Int32} {x_procedureParts : Nat → Int64} {x_procedurePlaces : Nat → Int32} {x_continuationFrames : Nat → Int32} {x_frameTasks : Nat → Int32} {x_frameForms : Nat → Int64} {x_frameValues : Nat → Int64} {x_framePlaces : Nat → Int32} {x_frameNexts : Nat → Int32} {x_arguments : Nat → Int64} {x_outputs : Nat → Int32} {x_itemKinds : Nat → Int32} {x_itemNumbers : Nat → Int32} {x_openLists : Nat → Int64}
variable {y_size : Int32} {y_pairs : Int32} {y_open : Int32} {y_formCount : Int32} {y_places : Int32} {y_procedures : Int32} {y_continuationCount : Int32} {y_things : Int32} {y_foundCount : Int32} {y_argumentCount : Int32} {y_value : Int64} {y_form : Int64} {y_wherein : Int32} {y_next : Int32} {y_working : Int32} {y_ending : Int32} {y_counts : Int32} {y_made : Int32} {y_entered : Int32} {y_printCount : Int32} {y_itemCount : Int32} {y_text : Nat → Int32} {y_firsts : Nat → Int64} {y_rests : Nat → Int64} {y_heads : Nat → Int32} {y_lasts : Nat → Int32} {y_globals : Nat → Int64} {y_placeNames : Nat → Int32} {y_placeValues : Nat → Int64} {y_placeNexts : Nat → Int32} {y_procedureForms : Nat → Int64} {y_procedurePlaces : Nat → Int32} {y_continuations : Nat → Int32} {y_whats : Nat → Int32} {y_withs : Nat → Int64} {y_whereins : Nat → Int32} {y_soFars : Nat → Int32} {y_afters : Nat → Int32} {y_found : Nat → Int64} {y_foundNexts : Nat → Int32} {y_arguments : Nat → Int64} {y_prints : Nat → Int32} {y_itemKinds : Nat → Int32} {y_itemNumbers : Nat → Int32} {y_pile : Nat → Int64}
variable {T : Nat → Nat} {n : Nat}
theorem xs_append {post : SX → Prop} {x : Int32} (h : n + ap_c x ≤ 70) (hp : post (nI (n + ap_c x), x_pairCount, x_placeCount, x_procedureCount, x_continuationCount, x_frameCount, x_state, x_ending, x_form, x_environment, x_frame, x_value, x_applied, x_argumentCount, x_countedCount, x_consCount, x_entryCount, x_outputCount, x_itemCount, ap_a x_text n x, x_firsts, x_rests, x_placeNames, x_placeValues, x_placeOuters, x_procedureParts, x_procedurePlaces, x_continuationFrames, x_frameTasks, x_frameForms, x_frameValues, x_framePlaces, x_frameNexts, x_arguments, x_outputs, x_itemKinds, x_itemNumbers, x_openLists)) : wpX_append post (nI n, x_pairCount, x_placeCount, x_procedureCount, x_continuationCount, x_frameCount, x_state, x_ending, x_form, x_environment, x_frame, x_value, x_applied, x_argumentCount, x_countedCount, x_consCount, x_entryCount, x_outputCount, x_itemCount, x_text, x_firsts, x_rests, x_placeNames, x_placeValues, x_placeOuters, x_procedureParts, x_procedurePlaces, x_continuationFrames, x_frameTasks, x_frameForms, x_frameValues, x_framePlaces, x_frameNexts, x_arguments, x_outputs, x_itemKinds, x_itemNumbers, x_openLists) x := by
  unfold ap_c ap_a at hp
  unfold ap_c at h
  by_cases c : x = -1
  · rw [if_pos c, if_pos c] at hp
    exact br_t c hp
  · rw [if_neg c, if_neg c] at hp
    rw [if_neg c] at h
    have e : (nI n).toNatClampNeg = n := nI_clamp (by omega)
    exact br_f c (br_f (nI_ge (b := 70) (by omega) (by decide)) ⟨vp_in_nI (by omega) (by decide), nm_r (cl_I e) (nm_r (nI_1 n) hp)⟩)
theorem xs_tokens {post : Int32 → SX → Prop} {a b c d : Int32} (hn : n ≤ 70) (h0 : ¬ (ap_v a ∧ ap_v b ∧ ap_v c ∧ ap_v d) → post (-1000000001) (nI n, x_pairCount, x_placeCount, x_procedureCount, x_continuationCount, x_frameCount, x_state, x_ending, x_form, x_environment, x_frame, x_value, x_applied, x_argumentCount, x_countedCount, x_consCount, x_entryCount, x_outputCount, x_itemCount, x_text, x_firsts, x_rests, x_placeNames, x_placeValues, x_placeOuters, x_procedureParts, x_procedurePlaces, x_continuationFrames, x_frameTasks, x_frameForms, x_frameValues, x_framePlaces, x_frameNexts, x_arguments, x_outputs, x_itemKinds, x_itemNumbers, x_openLists))
    (h1 : (ap_v a ∧ ap_v b ∧ ap_v c ∧ ap_v d) → ¬ n + (ap_c a + ap_c b + ap_c c + ap_c d) ≤ 70 → post (-1000000002) (nI n, x_pairCount, x_placeCount, x_procedureCount, x_continuationCount, x_frameCount, x_state, x_ending, x_form, x_environment, x_frame, x_value, x_applied, x_argumentCount, x_countedCount, x_consCount, x_entryCount, x_outputCount, x_itemCount, x_text, x_firsts, x_rests, x_placeNames, x_placeValues, x_placeOuters, x_procedureParts, x_procedurePlaces, x_continuationFrames, x_frameTasks, x_frameForms, x_frameValues, x_framePlaces, x_frameNexts, x_arguments, x_outputs, x_itemKinds, x_itemNumbers, x_openLists))
    (h2 : (ap_v a ∧ ap_v b ∧ ap_v c ∧ ap_v d) → n + (ap_c a + ap_c b + ap_c c + ap_c d) ≤ 70 → post (nI (n + ap_c a + ap_c b + ap_c c + ap_c d)) (nI (n + ap_c a + ap_c b + ap_c c + ap_c d), x_pairCount, x_placeCount, x_procedureCount, x_continuationCount, x_frameCount, x_state, x_ending, x_form, x_environment, x_frame, x_value, x_applied, x_argumentCount, x_countedCount, x_consCount, x_entryCount, x_outputCount, x_itemCount, ap_a (ap_a (ap_a (ap_a x_text n a) (n + ap_c a) b) (n + ap_c a + ap_c b) c) (n + ap_c a + ap_c b + ap_c c) d, x_firsts, x_rests, x_placeNames, x_placeValues, x_placeOuters, x_procedureParts, x_procedurePlaces, x_continuationFrames, x_frameTasks, x_frameForms, x_frameValues, x_framePlaces, x_frameNexts, x_arguments, x_outputs, x_itemKinds, x_itemNumbers, x_openLists)) :
    wpX_tokens post (nI n, x_pairCount, x_placeCount, x_procedureCount, x_continuationCount, x_frameCount, x_state, x_ending, x_form, x_environment, x_frame, x_value, x_applied, x_argumentCount, x_countedCount, x_consCount, x_entryCount, x_outputCount, x_itemCount, x_text, x_firsts, x_rests, x_placeNames, x_placeValues, x_placeOuters, x_procedureParts, x_procedurePlaces, x_continuationFrames, x_frameTasks, x_frameForms, x_frameValues, x_framePlaces, x_frameNexts, x_arguments, x_outputs, x_itemKinds, x_itemNumbers, x_openLists) a b c d := by
  unfold wpX_tokens
  refine xs_tok a (fun va => br_f (by decide) (xs_tok b (fun vb => br_f (by decide) (xs_tok c (fun vc => br_f (by decide) (xs_tok d (fun vd => br_f (by decide) ?_) (fun z => br_t rfl (h0 (fun w => z w.2.2.2))))) (fun z => br_t rfl (h0 (fun w => z w.2.2.1))))) (fun z => br_t rfl (h0 (fun w => z w.2.1))))) (fun z => br_t rfl (h0 (fun w => z w.1)))
  have ca : ap_c a ≤ 1 := by unfold ap_c; split <;> omega
  have cb : ap_c b ≤ 1 := by unfold ap_c; split <;> omega
  have cc : ap_c c ≤ 1 := by unfold ap_c; split <;> omega
  have cd : ap_c d ≤ 1 := by unfold ap_c; split <;> omega
  refine ap_br (A := fun z => wX_tokens_42 post a b c d z (nI n) x_pairCount x_placeCount x_procedureCount x_continuationCount x_frameCount x_state x_ending x_form x_environment x_frame x_value x_applied x_argumentCount x_countedCount x_consCount x_entryCount x_outputCount x_itemCount x_text x_firsts x_rests x_placeNames x_placeValues x_placeOuters x_procedureParts x_procedurePlaces x_continuationFrames x_frameTasks x_frameForms x_frameValues x_framePlaces x_frameNexts x_arguments x_outputs x_itemKinds x_itemNumbers x_openLists) ?_
  refine ap_br (A := fun z => wX_tokens_52 post a b c d z (nI (ap_c a)) (nI n) x_pairCount x_placeCount x_procedureCount x_continuationCount x_frameCount x_state x_ending x_form x_environment x_frame x_value x_applied x_argumentCount x_countedCount x_consCount x_entryCount x_outputCount x_itemCount x_text x_firsts x_rests x_placeNames x_placeValues x_placeOuters x_procedureParts x_procedurePlaces x_continuationFrames x_frameTasks x_frameForms x_frameValues x_framePlaces x_frameNexts x_arguments x_outputs x_itemKinds x_itemNumbers x_openLists) ?_
  refine ap_br (A := fun z => wX_tokens_63 post a b c d z (nI (ap_c a) + nI (ap_c b)) (nI n) x_pairCount x_placeCount x_procedureCount x_continuationCount x_frameCount x_state x_ending x_form x_environment x_frame x_value x_applied x_argumentCount x_countedCount x_consCount x_entryCount x_outputCount x_itemCount x_text x_firsts x_rests x_placeNames x_placeValues x_placeOuters x_procedureParts x_procedurePlaces x_continuationFrames x_frameTasks x_frameForms x_frameValues x_framePlaces x_frameNexts x_arguments x_outputs x_itemKinds x_itemNumbers x_openLists) ?_
  refine ap_br (A := fun z => wX_tokens_75 post a b c d z (nI (ap_c a) + nI (ap_c b) + nI (ap_c c)) (nI n) x_pairCount x_placeCount x_procedureCount x_continuationCount x_frameCount x_state x_ending x_form x_environment x_frame x_value x_applied x_argumentCount x_countedCount x_consCount x_entryCount x_outputCount x_itemCount x_text x_firsts x_rests x_placeNames x_placeValues x_placeOuters x_procedureParts x_procedurePlaces x_continuationFrames x_frameTasks x_frameForms x_frameValues x_framePlaces x_frameNexts x_arguments x_outputs x_itemKinds x_itemNumbers x_openLists) ?_
  have e : nI (ap_c a) + nI (ap_c b) + nI (ap_c c) + nI (ap_c d) = nI (ap_c a + ap_c b + ap_c c + ap_c d) := by rw [nI_add, nI_add, nI_add]
  refine nm_r e ?_
  rw [nI_add]
  refine pk_le (n + (ap_c a + ap_c b + ap_c c + ap_c d)) 70 (fun h => ?_) (fun h => h1 ⟨va, vb, vc, vd⟩ (by omega))
  exact xs_append (by omega) (xs_append (by omega) (xs_append (by omega) (xs_append (by omega) (h2 ⟨va, vb, vc, vd⟩ h))))
def ap_s (a b c d : Int32) (i : Nat) : Int32 := if i = 0 then a else if i = 1 then b else if i = 2 then c else d
theorem ys_oneOf {post : Int32 → Prop} {a b c d : Int32} {i : Nat} (hi : i < 4) (h : post (ap_s a b c d i)) : wpY_oneOf post (y_size, y_pairs, y_open, y_formCount, y_places, y_procedures, y_continuationCount, y_things, y_foundCount, y_argumentCount, y_value, y_form, y_wherein, y_next, y_working, y_ending, y_counts, y_made, y_entered, y_printCount, y_itemCount, y_text, y_firsts, y_rests, y_heads, y_lasts, y_globals, y_placeNames, y_placeValues, y_placeNexts, y_procedureForms, y_procedurePlaces, y_continuations, y_whats, y_withs, y_whereins, y_soFars, y_afters, y_found, y_foundNexts, y_arguments, y_prints, y_itemKinds, y_itemNumbers, y_pile) (nI i) a b c d := by
  unfold ap_s at h
  refine pk_eq i 0 (fun z => ?_) (fun z => pk_eq i 1 (fun z1 => ?_) (fun z1 => pk_eq i 2 (fun z2 => ?_) (fun z2 => ?_)))
  · rw [if_pos z] at h; exact h
  · rw [if_neg z, if_pos z1] at h; exact h
  · rw [if_neg z, if_neg z1, if_pos z2] at h; exact h
  · rw [if_neg z, if_neg z1, if_neg z2] at h; exact h
theorem ys_isTok (x : Int32) {post : Int32 → Prop} (hx : x ≠ -1) (h1 : ap_v x → post 1) (h0 : ¬ ap_v x → post 0) : wpY_isToken post (y_size, y_pairs, y_open, y_formCount, y_places, y_procedures, y_continuationCount, y_things, y_foundCount, y_argumentCount, y_value, y_form, y_wherein, y_next, y_working, y_ending, y_counts, y_made, y_entered, y_printCount, y_itemCount, y_text, y_firsts, y_rests, y_heads, y_lasts, y_globals, y_placeNames, y_placeValues, y_placeNexts, y_procedureForms, y_procedurePlaces, y_continuations, y_whats, y_withs, y_whereins, y_soFars, y_afters, y_found, y_foundNexts, y_arguments, y_prints, y_itemKinds, y_itemNumbers, y_pile) x := by
  by_cases hneg : x < 0
  · obtain ⟨nv, hl⟩ := ap_v_neg hneg hx
    have l10 : x < 10 := Int32.lt_trans hneg (by decide)
    have l50 : x < 50 := Int32.lt_trans hneg (by decide)
    exact br_t hneg (br_t l10 (br_t l50 (h0 nv)))
  · obtain ⟨k, hk, rfl⟩ := nI_of hneg
    rw [ap_v_nI hk] at h1 h0
    unfold zv_tk at h1 h0
    exact br_f hneg (pk_le k 4 (fun _ => h1 (by omega)) (fun _ => pk_lt k 10 (fun _ => pk_lt k 50 (fun _ => h0 (by omega)) (fun _ => pk_lt 64 k (fun _ => h0 (by omega)) (fun _ => h1 (by omega)))) (fun _ => pk_le k 45 (fun _ => h1 (by omega)) (fun _ => pk_lt k 50 (fun _ => h0 (by omega)) (fun _ => pk_lt 64 k (fun _ => h0 (by omega)) (fun _ => h1 (by omega)))))))
theorem ys_43 {post : Int32 → SY → Prop} {J : Int32 → Int32 → Prop} {a b c d x : Int32} {k i : Nat} (h : J (nI (k + ap_c x)) (nI (i + 1))) : wY_tokens_43 post J a b c d (nI k) (nI i) x y_size y_pairs y_open y_formCount y_places y_procedures y_continuationCount y_things y_foundCount y_argumentCount y_value y_form y_wherein y_next y_working y_ending y_counts y_made y_entered y_printCount y_itemCount y_text y_firsts y_rests y_heads y_lasts y_globals y_placeNames y_placeValues y_placeNexts y_procedureForms y_procedurePlaces y_continuations y_whats y_withs y_whereins y_soFars y_afters y_found y_foundNexts y_arguments y_prints y_itemKinds y_itemNumbers y_pile := by
  unfold ap_c at h
  by_cases z : x = -1
  · rw [if_pos z] at h
    exact br_t z (nm_r (nI_1 i) h)
  · rw [if_neg z] at h
    exact br_f z (nm_r (nI_1 k) (nm_r (nI_1 i) h))
theorem ys_84 {post : Int32 → SY → Prop} {a b c d : Int32} {i f : Nat} (hi : i < 4) (hn : n + ap_c (ap_s a b c d i) ≤ 70) (h : wY_tokens_84 post a b c d y_pairs y_open y_formCount y_places y_procedures y_continuationCount y_things y_foundCount y_argumentCount y_value y_form y_wherein y_next y_working y_ending y_counts y_made y_entered y_printCount y_itemCount f (nI (i + 1)) (nI (n + ap_c (ap_s a b c d i))) (ap_a y_text n (ap_s a b c d i)) y_firsts y_rests y_heads y_lasts y_globals y_placeNames y_placeValues y_placeNexts y_procedureForms y_procedurePlaces y_continuations y_whats y_withs y_whereins y_soFars y_afters y_found y_foundNexts y_arguments y_prints y_itemKinds y_itemNumbers y_pile) :
    wY_tokens_84 post a b c d y_pairs y_open y_formCount y_places y_procedures y_continuationCount y_things y_foundCount y_argumentCount y_value y_form y_wherein y_next y_working y_ending y_counts y_made y_entered y_printCount y_itemCount (f + 1) (nI i) (nI n) y_text y_firsts y_rests y_heads y_lasts y_globals y_placeNames y_placeValues y_placeNexts y_procedureForms y_procedurePlaces y_continuations y_whats y_withs y_whereins y_soFars y_afters y_found y_foundNexts y_arguments y_prints y_itemKinds y_itemNumbers y_pile := by
  refine br_f (nI_ge (b := 4) hi (by decide)) (ys_oneOf hi ?_)
  unfold ap_c at h hn
  unfold ap_a at h
  by_cases z : ap_s a b c d i = -1
  · rw [if_pos z, if_pos z] at h
    exact br_t z (nm_r (nI_1 i) h)
  · rw [if_neg z, if_neg z] at h
    rw [if_neg z] at hn
    have e : (nI n).toNatClampNeg = n := nI_clamp (by omega)
    exact br_f z ⟨vp_in_nI (by omega) (by decide), nm_r (cl_I e) (nm_r (nI_1 n) (nm_r (nI_1 i) h))⟩
theorem ys_6 {post : Int32 → SY → Prop} {a b c d : Int32} {k i f : Nat} (hi : i < 4) (h0 : ¬ ap_v (ap_s a b c d i) → post (-1000000001) (y_size, y_pairs, y_open, y_formCount, y_places, y_procedures, y_continuationCount, y_things, y_foundCount, y_argumentCount, y_value, y_form, y_wherein, y_next, y_working, y_ending, y_counts, y_made, y_entered, y_printCount, y_itemCount, y_text, y_firsts, y_rests, y_heads, y_lasts, y_globals, y_placeNames, y_placeValues, y_placeNexts, y_procedureForms, y_procedurePlaces, y_continuations, y_whats, y_withs, y_whereins, y_soFars, y_afters, y_found, y_foundNexts, y_arguments, y_prints, y_itemKinds, y_itemNumbers, y_pile))
    (h : ap_v (ap_s a b c d i) → wY_tokens_6 post a b c d y_size y_pairs y_open y_formCount y_places y_procedures y_continuationCount y_things y_foundCount y_argumentCount y_value y_form y_wherein y_next y_working y_ending y_counts y_made y_entered y_printCount y_itemCount y_text y_firsts y_rests y_heads y_lasts y_globals y_placeNames y_placeValues y_placeNexts y_procedureForms y_procedurePlaces y_continuations y_whats y_withs y_whereins y_soFars y_afters y_found y_foundNexts y_arguments y_prints y_itemKinds y_itemNumbers y_pile f (nI (k + ap_c (ap_s a b c d i))) (nI (i + 1))) : wY_tokens_6 post a b c d y_size y_pairs y_open y_formCount y_places y_procedures y_continuationCount y_things y_foundCount y_argumentCount y_value y_form y_wherein y_next y_working y_ending y_counts y_made y_entered y_printCount y_itemCount y_text y_firsts y_rests y_heads y_lasts y_globals y_placeNames y_placeValues y_placeNexts y_procedureForms y_procedurePlaces y_continuations y_whats y_withs y_whereins y_soFars y_afters y_found y_foundNexts y_arguments y_prints y_itemKinds y_itemNumbers y_pile (f + 1) (nI k) (nI i) := by
  refine br_f (nI_ge (b := 4) hi (by decide)) (ys_oneOf hi ?_)
  by_cases z : ap_s a b c d i = -1
  · exact br_t z (ys_43 (h (Or.inl z)))
  · exact br_f z (ys_isTok _ z (fun v => br_f (by decide) (ys_43 (h v))) (fun v => br_t rfl (h0 v)))
theorem ys_tokens {post : Int32 → SY → Prop} {a b c d : Int32} (hn : n ≤ 70) (h0 : ¬ (ap_v a ∧ ap_v b ∧ ap_v c ∧ ap_v d) → post (-1000000001) (nI n, y_pairs, y_open, y_formCount, y_places, y_procedures, y_continuationCount, y_things, y_foundCount, y_argumentCount, y_value, y_form, y_wherein, y_next, y_working, y_ending, y_counts, y_made, y_entered, y_printCount, y_itemCount, y_text, y_firsts, y_rests, y_heads, y_lasts, y_globals, y_placeNames, y_placeValues, y_placeNexts, y_procedureForms, y_procedurePlaces, y_continuations, y_whats, y_withs, y_whereins, y_soFars, y_afters, y_found, y_foundNexts, y_arguments, y_prints, y_itemKinds, y_itemNumbers, y_pile))
    (h1 : (ap_v a ∧ ap_v b ∧ ap_v c ∧ ap_v d) → ¬ n + (ap_c a + ap_c b + ap_c c + ap_c d) ≤ 70 → post (-1000000002) (nI n, y_pairs, y_open, y_formCount, y_places, y_procedures, y_continuationCount, y_things, y_foundCount, y_argumentCount, y_value, y_form, y_wherein, y_next, y_working, y_ending, y_counts, y_made, y_entered, y_printCount, y_itemCount, y_text, y_firsts, y_rests, y_heads, y_lasts, y_globals, y_placeNames, y_placeValues, y_placeNexts, y_procedureForms, y_procedurePlaces, y_continuations, y_whats, y_withs, y_whereins, y_soFars, y_afters, y_found, y_foundNexts, y_arguments, y_prints, y_itemKinds, y_itemNumbers, y_pile))
    (h2 : (ap_v a ∧ ap_v b ∧ ap_v c ∧ ap_v d) → n + (ap_c a + ap_c b + ap_c c + ap_c d) ≤ 70 → post (nI (n + ap_c a + ap_c b + ap_c c + ap_c d)) (nI (n + ap_c a + ap_c b + ap_c c + ap_c d), y_pairs, y_open, y_formCount, y_places, y_procedures, y_continuationCount, y_things, y_foundCount, y_argumentCount, y_value, y_form, y_wherein, y_next, y_working, y_ending, y_counts, y_made, y_entered, y_printCount, y_itemCount, ap_a (ap_a (ap_a (ap_a y_text n a) (n + ap_c a) b) (n + ap_c a + ap_c b) c) (n + ap_c a + ap_c b + ap_c c) d, y_firsts, y_rests, y_heads, y_lasts, y_globals, y_placeNames, y_placeValues, y_placeNexts, y_procedureForms, y_procedurePlaces, y_continuations, y_whats, y_withs, y_whereins, y_soFars, y_afters, y_found, y_foundNexts, y_arguments, y_prints, y_itemKinds, y_itemNumbers, y_pile)) :
    wpY_tokens post (nI n, y_pairs, y_open, y_formCount, y_places, y_procedures, y_continuationCount, y_things, y_foundCount, y_argumentCount, y_value, y_form, y_wherein, y_next, y_working, y_ending, y_counts, y_made, y_entered, y_printCount, y_itemCount, y_text, y_firsts, y_rests, y_heads, y_lasts, y_globals, y_placeNames, y_placeValues, y_placeNexts, y_procedureForms, y_procedurePlaces, y_continuations, y_whats, y_withs, y_whereins, y_soFars, y_afters, y_found, y_foundNexts, y_arguments, y_prints, y_itemKinds, y_itemNumbers, y_pile) a b c d := by
  have ca : ap_c a ≤ 1 := by unfold ap_c; split <;> omega
  have cb : ap_c b ≤ 1 := by unfold ap_c; split <;> omega
  have cc : ap_c c ≤ 1 := by unfold ap_c; split <;> omega
  have cd : ap_c d ≤ 1 := by unfold ap_c; split <;> omega
  refine ⟨5, ys_6 (k := 0) (i := 0) (by decide) (fun z => h0 (fun w => z w.1)) (fun va => ys_6 (by decide) (fun z => h0 (fun w => z w.2.1)) (fun vb => ys_6 (by decide) (fun z => h0 (fun w => z w.2.2.1)) (fun vc => ys_6 (by decide) (fun z => h0 (fun w => z w.2.2.2)) (fun vd => ?_))))⟩
  refine br_t (by decide) ?_
  rw [nI_add]
  have hv : ap_v a ∧ ap_v b ∧ ap_v c ∧ ap_v d := ⟨va, vb, vc, vd⟩
  have es : 0 + ap_c (ap_s a b c d 0) + ap_c (ap_s a b c d (0 + 1)) + ap_c (ap_s a b c d (0 + 1 + 1)) + ap_c (ap_s a b c d (0 + 1 + 1 + 1)) = ap_c a + ap_c b + ap_c c + ap_c d := by
    show 0 + ap_c a + ap_c b + ap_c c + ap_c d = _
    omega
  rw [es]
  refine pk_le (n + (ap_c a + ap_c b + ap_c c + ap_c d)) 70 (fun h => ?_) (fun h => h1 hv (by omega))
  refine ⟨5, ys_84 (i := 0) (by decide) (by show n + ap_c a ≤ 70; omega) (ys_84 (by decide) (by show n + ap_c a + ap_c b ≤ 70; omega) (ys_84 (by decide) (by show n + ap_c a + ap_c b + ap_c c ≤ 70; omega) (ys_84 (by decide) (by show n + ap_c a + ap_c b + ap_c c + ap_c d ≤ 70; omega) ?_)))⟩
  exact br_t (by decide) (h2 hv h)
/-- one token more -/
theorem ap_T {x : Int32} {xt yt : Nat → Int32} (hv : ap_v x) (h : ∃ T : Nat → Nat, (∀ i, i < n → zv_tk (T i)) ∧ ∀ i, i < n → xt i = nI (T i) ∧ yt i = nI (T i)) :
    ∃ T : Nat → Nat, (∀ i, i < n + ap_c x → zv_tk (T i)) ∧ ∀ i, i < n + ap_c x → ap_a xt n x i = nI (T i) ∧ ap_a yt n x i = nI (T i) := by
  obtain ⟨T, h1, h2⟩ := h
  unfold ap_c ap_a
  by_cases z : x = -1
  · rw [if_pos z, if_pos z, if_pos z]
    exact ⟨T, h1, h2⟩
  · rw [if_neg z, if_neg z, if_neg z]
    obtain ⟨k, hk, rfl⟩ := hv.resolve_left z
    refine ⟨fun i => if i = n then k else T i, fun i hi => ?_, fun i hi => ?_⟩
    · by_cases y : i = n
      · dsimp only; rw [if_pos y]; exact hk
      · dsimp only; rw [if_neg y]; exact h1 i (by omega)
    · by_cases y : i = n
      · dsimp only; rw [if_pos y, y, pk_us, pk_us]; exact ⟨rfl, rfl⟩
      · dsimp only; rw [if_neg y, pk_un y, pk_un y]; exact h2 i (by omega)
theorem i_tokens {k : Nat} {a b c d : Int32} (I : i_Rel k (x_textLength, x_pairCount, x_placeCount, x_procedureCount, x_continuationCount, x_frameCount, x_state, x_ending, x_form, x_environment, x_frame, x_value, x_applied, x_argumentCount, x_countedCount, x_consCount, x_entryCount, x_outputCount, x_itemCount, x_text, x_firsts, x_rests, x_placeNames, x_placeValues, x_placeOuters, x_procedureParts, x_procedurePlaces, x_continuationFrames, x_frameTasks, x_frameForms, x_frameValues, x_framePlaces, x_frameNexts, x_arguments, x_outputs, x_itemKinds, x_itemNumbers, x_openLists) (y_size, y_pairs, y_open, y_formCount, y_places, y_procedures, y_continuationCount, y_things, y_foundCount, y_argumentCount, y_value, y_form, y_wherein, y_next, y_working, y_ending, y_counts, y_made, y_entered, y_printCount, y_itemCount, y_text, y_firsts, y_rests, y_heads, y_lasts, y_globals, y_placeNames, y_placeValues, y_placeNexts, y_procedureForms, y_procedurePlaces, y_continuations, y_whats, y_withs, y_whereins, y_soFars, y_afters, y_found, y_foundNexts, y_arguments, y_prints, y_itemKinds, y_itemNumbers, y_pile)) : wpX_tokens (fun r u' => wpY_tokens (fun r' v' => r' = r ∧ i_Rel (k + 5) u' v') (y_size, y_pairs, y_open, y_formCount, y_places, y_procedures, y_continuationCount, y_things, y_foundCount, y_argumentCount, y_value, y_form, y_wherein, y_next, y_working, y_ending, y_counts, y_made, y_entered, y_printCount, y_itemCount, y_text, y_firsts, y_rests, y_heads, y_lasts, y_globals, y_placeNames, y_placeValues, y_placeNexts, y_procedureForms, y_procedurePlaces, y_continuations, y_whats, y_withs, y_whereins, y_soFars, y_afters, y_found, y_foundNexts, y_arguments, y_prints, y_itemKinds, y_itemNumbers, y_pile) a b c d) (x_textLength, x_pairCount, x_placeCount, x_procedureCount, x_continuationCount, x_frameCount, x_state, x_ending, x_form, x_environment, x_frame, x_value, x_applied, x_argumentCount, x_countedCount, x_consCount, x_entryCount, x_outputCount, x_itemCount, x_text, x_firsts, x_rests, x_placeNames, x_placeValues, x_placeOuters, x_procedureParts, x_procedurePlaces, x_continuationFrames, x_frameTasks, x_frameForms, x_frameValues, x_framePlaces, x_frameNexts, x_arguments, x_outputs, x_itemKinds, x_itemNumbers, x_openLists) a b c d := by
  have I' := I
  obtain ⟨T, n, hn, hT, rfl, rfl, ht⟩ := I
  refine xs_tokens hn (fun z => ?_) (fun z1 z2 => ?_) (fun z1 z2 => ?_)
  · exact ys_tokens hn (fun _ => ⟨rfl, I'⟩) (fun y => absurd y z) (fun y => absurd y z)
  · exact ys_tokens hn (fun y => absurd z1 y) (fun _ _ => ⟨rfl, I'⟩) (fun _ y => absurd y z2)
  · refine ys_tokens hn (fun y => absurd z1 y) (fun _ y => absurd z2 y) (fun _ _ => ⟨rfl, ?_⟩)
    obtain ⟨T', g1, g2⟩ := ap_T z1.2.2.2 (ap_T z1.2.2.1 (ap_T z1.2.1 (ap_T z1.1 ⟨T, hT, ht⟩)))
    exact ⟨T', _, by omega, g1, rfl, rfl, g2⟩
theorem i_untoken {k : Nat} (I : i_Rel k (x_textLength, x_pairCount, x_placeCount, x_procedureCount, x_continuationCount, x_frameCount, x_state, x_ending, x_form, x_environment, x_frame, x_value, x_applied, x_argumentCount, x_countedCount, x_consCount, x_entryCount, x_outputCount, x_itemCount, x_text, x_firsts, x_rests, x_placeNames, x_placeValues, x_placeOuters, x_procedureParts, x_procedurePlaces, x_continuationFrames, x_frameTasks, x_frameForms, x_frameValues, x_framePlaces, x_frameNexts, x_arguments, x_outputs, x_itemKinds, x_itemNumbers, x_openLists) (y_size, y_pairs, y_open, y_formCount, y_places, y_procedures, y_continuationCount, y_things, y_foundCount, y_argumentCount, y_value, y_form, y_wherein, y_next, y_working, y_ending, y_counts, y_made, y_entered, y_printCount, y_itemCount, y_text, y_firsts, y_rests, y_heads, y_lasts, y_globals, y_placeNames, y_placeValues, y_placeNexts, y_procedureForms, y_procedurePlaces, y_continuations, y_whats, y_withs, y_whereins, y_soFars, y_afters, y_found, y_foundNexts, y_arguments, y_prints, y_itemKinds, y_itemNumbers, y_pile)) : wpX_untoken (fun r u' => wpY_untoken (fun r' v' => r' = r ∧ i_Rel (k + 5) u' v') (y_size, y_pairs, y_open, y_formCount, y_places, y_procedures, y_continuationCount, y_things, y_foundCount, y_argumentCount, y_value, y_form, y_wherein, y_next, y_working, y_ending, y_counts, y_made, y_entered, y_printCount, y_itemCount, y_text, y_firsts, y_rests, y_heads, y_lasts, y_globals, y_placeNames, y_placeValues, y_placeNexts, y_procedureForms, y_procedurePlaces, y_continuations, y_whats, y_withs, y_whereins, y_soFars, y_afters, y_found, y_foundNexts, y_arguments, y_prints, y_itemKinds, y_itemNumbers, y_pile)) (x_textLength, x_pairCount, x_placeCount, x_procedureCount, x_continuationCount, x_frameCount, x_state, x_ending, x_form, x_environment, x_frame, x_value, x_applied, x_argumentCount, x_countedCount, x_consCount, x_entryCount, x_outputCount, x_itemCount, x_text, x_firsts, x_rests, x_placeNames, x_placeValues, x_placeOuters, x_procedureParts, x_procedurePlaces, x_continuationFrames, x_frameTasks, x_frameForms, x_frameValues, x_framePlaces, x_frameNexts, x_arguments, x_outputs, x_itemKinds, x_itemNumbers, x_openLists) := by
  have I' := I
  obtain ⟨T, n, hn, hT, rfl, rfl, ht⟩ := I
  by_cases c : n = 0
  · subst c
    exact br_t rfl (br_t rfl ⟨rfl, I'⟩)
  · obtain ⟨m, rfl⟩ : ∃ m, n = m + 1 := ⟨n - 1, by omega⟩
    have h0 : ¬ nI (m + 1) = 0 := nI_ne0 (by omega) (by omega)
    have hi : vp_in (nI m) 70 := vp_in_nI (by omega) (by decide)
    have e : (nI m).toNatClampNeg = m := nI_clamp (by omega)
    refine br_f h0 (nm_r (nI_pred m) ⟨hi, br_f h0 (nm_r (nI_pred m) ⟨hi, ?_, T, m, by omega, fun i hi => hT i (by omega), rfl, rfl, fun i hi => ht i (by omega)⟩)⟩)
    rw [e, (ht m (by omega)).1, (ht m (by omega)).2]
theorem i_clear {k : Nat} (I : i_Rel k (x_textLength, x_pairCount, x_placeCount, x_procedureCount, x_continuationCount, x_frameCount, x_state, x_ending, x_form, x_environment, x_frame, x_value, x_applied, x_argumentCount, x_countedCount, x_consCount, x_entryCount, x_outputCount, x_itemCount, x_text, x_firsts, x_rests, x_placeNames, x_placeValues, x_placeOuters, x_procedureParts, x_procedurePlaces, x_continuationFrames, x_frameTasks, x_frameForms, x_frameValues, x_framePlaces, x_frameNexts, x_arguments, x_outputs, x_itemKinds, x_itemNumbers, x_openLists) (y_size, y_pairs, y_open, y_formCount, y_places, y_procedures, y_continuationCount, y_things, y_foundCount, y_argumentCount, y_value, y_form, y_wherein, y_next, y_working, y_ending, y_counts, y_made, y_entered, y_printCount, y_itemCount, y_text, y_firsts, y_rests, y_heads, y_lasts, y_globals, y_placeNames, y_placeValues, y_placeNexts, y_procedureForms, y_procedurePlaces, y_continuations, y_whats, y_withs, y_whereins, y_soFars, y_afters, y_found, y_foundNexts, y_arguments, y_prints, y_itemKinds, y_itemNumbers, y_pile)) : wpX_clear (fun u' => wpY_clear (fun v' => i_Rel (k + 5) u' v') (y_size, y_pairs, y_open, y_formCount, y_places, y_procedures, y_continuationCount, y_things, y_foundCount, y_argumentCount, y_value, y_form, y_wherein, y_next, y_working, y_ending, y_counts, y_made, y_entered, y_printCount, y_itemCount, y_text, y_firsts, y_rests, y_heads, y_lasts, y_globals, y_placeNames, y_placeValues, y_placeNexts, y_procedureForms, y_procedurePlaces, y_continuations, y_whats, y_withs, y_whereins, y_soFars, y_afters, y_found, y_foundNexts, y_arguments, y_prints, y_itemKinds, y_itemNumbers, y_pile)) (x_textLength, x_pairCount, x_placeCount, x_procedureCount, x_continuationCount, x_frameCount, x_state, x_ending, x_form, x_environment, x_frame, x_value, x_applied, x_argumentCount, x_countedCount, x_consCount, x_entryCount, x_outputCount, x_itemCount, x_text, x_firsts, x_rests, x_placeNames, x_placeValues, x_placeOuters, x_procedureParts, x_procedurePlaces, x_continuationFrames, x_frameTasks, x_frameForms, x_frameValues, x_framePlaces, x_frameNexts, x_arguments, x_outputs, x_itemKinds, x_itemNumbers, x_openLists) :=
  ⟨fun _ => 0, 0, by omega, fun i hi => by omega, rfl, rfl, fun i hi => by omega⟩
theorem pz_ww_le : pz_ww T n ≤ n := by
  induction n with
  | zero => exact Nat.le_refl _
  | succ n ih => rw [pz_ww]; split <;> omega
theorem pz_ww_n (h : n ≤ 70) : ¬ nI (pz_ww T n) = -1000000003 := by
  have := pz_ww_le (T := T) (n := n)
  intro z
  exact nI_pos (n := pz_ww T n) (by omega) (by rw [z]; decide)
theorem i_reads {k : Nat} (I : i_Rel k (x_textLength, x_pairCount, x_placeCount, x_procedureCount, x_continuationCount, x_frameCount, x_state, x_ending, x_form, x_environment, x_frame, x_value, x_applied, x_argumentCount, x_countedCount, x_consCount, x_entryCount, x_outputCount, x_itemCount, x_text, x_firsts, x_rests, x_placeNames, x_placeValues, x_placeOuters, x_procedureParts, x_procedurePlaces, x_continuationFrames, x_frameTasks, x_frameForms, x_frameValues, x_framePlaces, x_frameNexts, x_arguments, x_outputs, x_itemKinds, x_itemNumbers, x_openLists) (y_size, y_pairs, y_open, y_formCount, y_places, y_procedures, y_continuationCount, y_things, y_foundCount, y_argumentCount, y_value, y_form, y_wherein, y_next, y_working, y_ending, y_counts, y_made, y_entered, y_printCount, y_itemCount, y_text, y_firsts, y_rests, y_heads, y_lasts, y_globals, y_placeNames, y_placeValues, y_placeNexts, y_procedureForms, y_procedurePlaces, y_continuations, y_whats, y_withs, y_whereins, y_soFars, y_afters, y_found, y_foundNexts, y_arguments, y_prints, y_itemKinds, y_itemNumbers, y_pile)) : wpX_reads (fun r => wpY_reads (fun r' v' => r' = r ∧ i_Rel (k + 5) (x_textLength, x_pairCount, x_placeCount, x_procedureCount, x_continuationCount, x_frameCount, x_state, x_ending, x_form, x_environment, x_frame, x_value, x_applied, x_argumentCount, x_countedCount, x_consCount, x_entryCount, x_outputCount, x_itemCount, x_text, x_firsts, x_rests, x_placeNames, x_placeValues, x_placeOuters, x_procedureParts, x_procedurePlaces, x_continuationFrames, x_frameTasks, x_frameForms, x_frameValues, x_framePlaces, x_frameNexts, x_arguments, x_outputs, x_itemKinds, x_itemNumbers, x_openLists) v') (y_size, y_pairs, y_open, y_formCount, y_places, y_procedures, y_continuationCount, y_things, y_foundCount, y_argumentCount, y_value, y_form, y_wherein, y_next, y_working, y_ending, y_counts, y_made, y_entered, y_printCount, y_itemCount, y_text, y_firsts, y_rests, y_heads, y_lasts, y_globals, y_placeNames, y_placeValues, y_placeNexts, y_procedureForms, y_procedurePlaces, y_continuations, y_whats, y_withs, y_whereins, y_soFars, y_afters, y_found, y_foundNexts, y_arguments, y_prints, y_itemKinds, y_itemNumbers, y_pile)) (x_textLength, x_pairCount, x_placeCount, x_procedureCount, x_continuationCount, x_frameCount, x_state, x_ending, x_form, x_environment, x_frame, x_value, x_applied, x_argumentCount, x_countedCount, x_consCount, x_entryCount, x_outputCount, x_itemCount, x_text, x_firsts, x_rests, x_placeNames, x_placeValues, x_placeOuters, x_procedureParts, x_procedurePlaces, x_continuationFrames, x_frameTasks, x_frameForms, x_frameValues, x_framePlaces, x_frameNexts, x_arguments, x_outputs, x_itemKinds, x_itemNumbers, x_openLists) := by
  obtain ⟨T, n, hn, hT, rfl, rfl, ht⟩ := I
  have hX : ∀ i, i < n → zv_tk (T i) ∧ x_text i = nI (T i) := fun i hi => ⟨hT i hi, (ht i hi).1⟩
  have hY : ∀ i, i < n → zv_tk (T i) ∧ y_text i = nI (T i) := fun i hi => ⟨hT i hi, (ht i hi).2⟩
  unfold wpX_reads wpY_reads
  refine xs_countForms hn hX (fun hR => br_f (pz_ww_n hn) ?_) (fun hR => br_t rfl ?_)
  · exact ys_read hn hY (fun _ F R H L _ _ _ => ⟨rfl, rfl, T, n, hn, hT, rfl, rfl, ht⟩) (fun z => absurd hR z)
  · exact ys_read hn hY (fun z => absurd z hR) (fun _ a b c F R H L => ⟨rfl, rfl, T, n, hn, hT, rfl, rfl, ht⟩)
theorem i_forms {k : Nat} (I : i_Rel k (x_textLength, x_pairCount, x_placeCount, x_procedureCount, x_continuationCount, x_frameCount, x_state, x_ending, x_form, x_environment, x_frame, x_value, x_applied, x_argumentCount, x_countedCount, x_consCount, x_entryCount, x_outputCount, x_itemCount, x_text, x_firsts, x_rests, x_placeNames, x_placeValues, x_placeOuters, x_procedureParts, x_procedurePlaces, x_continuationFrames, x_frameTasks, x_frameForms, x_frameValues, x_framePlaces, x_frameNexts, x_arguments, x_outputs, x_itemKinds, x_itemNumbers, x_openLists) (y_size, y_pairs, y_open, y_formCount, y_places, y_procedures, y_continuationCount, y_things, y_foundCount, y_argumentCount, y_value, y_form, y_wherein, y_next, y_working, y_ending, y_counts, y_made, y_entered, y_printCount, y_itemCount, y_text, y_firsts, y_rests, y_heads, y_lasts, y_globals, y_placeNames, y_placeValues, y_placeNexts, y_procedureForms, y_procedurePlaces, y_continuations, y_whats, y_withs, y_whereins, y_soFars, y_afters, y_found, y_foundNexts, y_arguments, y_prints, y_itemKinds, y_itemNumbers, y_pile)) : wpX_forms (fun r => wpY_forms (fun r' v' => r' = r ∧ i_Rel (k + 5) (x_textLength, x_pairCount, x_placeCount, x_procedureCount, x_continuationCount, x_frameCount, x_state, x_ending, x_form, x_environment, x_frame, x_value, x_applied, x_argumentCount, x_countedCount, x_consCount, x_entryCount, x_outputCount, x_itemCount, x_text, x_firsts, x_rests, x_placeNames, x_placeValues, x_placeOuters, x_procedureParts, x_procedurePlaces, x_continuationFrames, x_frameTasks, x_frameForms, x_frameValues, x_framePlaces, x_frameNexts, x_arguments, x_outputs, x_itemKinds, x_itemNumbers, x_openLists) v') (y_size, y_pairs, y_open, y_formCount, y_places, y_procedures, y_continuationCount, y_things, y_foundCount, y_argumentCount, y_value, y_form, y_wherein, y_next, y_working, y_ending, y_counts, y_made, y_entered, y_printCount, y_itemCount, y_text, y_firsts, y_rests, y_heads, y_lasts, y_globals, y_placeNames, y_placeValues, y_placeNexts, y_procedureForms, y_procedurePlaces, y_continuations, y_whats, y_withs, y_whereins, y_soFars, y_afters, y_found, y_foundNexts, y_arguments, y_prints, y_itemKinds, y_itemNumbers, y_pile)) (x_textLength, x_pairCount, x_placeCount, x_procedureCount, x_continuationCount, x_frameCount, x_state, x_ending, x_form, x_environment, x_frame, x_value, x_applied, x_argumentCount, x_countedCount, x_consCount, x_entryCount, x_outputCount, x_itemCount, x_text, x_firsts, x_rests, x_placeNames, x_placeValues, x_placeOuters, x_procedureParts, x_procedurePlaces, x_continuationFrames, x_frameTasks, x_frameForms, x_frameValues, x_framePlaces, x_frameNexts, x_arguments, x_outputs, x_itemKinds, x_itemNumbers, x_openLists) := by
  obtain ⟨T, n, hn, hT, rfl, rfl, ht⟩ := I
  have hX : ∀ i, i < n → zv_tk (T i) ∧ x_text i = nI (T i) := fun i hi => ⟨hT i hi, (ht i hi).1⟩
  have hY : ∀ i, i < n → zv_tk (T i) ∧ y_text i = nI (T i) := fun i hi => ⟨hT i hi, (ht i hi).2⟩
  unfold wpX_forms wpY_forms
  refine xs_countForms hn hX (fun hR => ?_) (fun hR => ?_)
  · exact ys_read hn hY (fun _ F R H L _ _ _ => br_f (by decide) ⟨rfl, T, n, hn, hT, rfl, rfl, ht⟩) (fun z => absurd hR z)
  · exact ys_read hn hY (fun z => absurd z hR) (fun _ a b c F R H L => br_t rfl ⟨rfl, T, n, hn, hT, rfl, rfl, ht⟩)
end
theorem i_vc_tokens {k : Nat} {u : SX} {v : SY} (I : i_Rel k u v) (hk : k + 5 ≤ 2560) (v1 : Int32) (v2 : Int32) (v3 : Int32) (v4 : Int32) : wpX_tokens (fun r u' => wpY_tokens (fun r' v' => r' = r ∧ i_Rel (k + 5) u' v') v v1 v2 v3 v4) u v1 v2 v3 v4 := by
  obtain ⟨x_textLength, x_pairCount, x_placeCount, x_procedureCount, x_continuationCount, x_frameCount, x_state, x_ending, x_form, x_environment, x_frame, x_value, x_applied, x_argumentCount, x_countedCount, x_consCount, x_entryCount, x_outputCount, x_itemCount, x_text, x_firsts, x_rests, x_placeNames, x_placeValues, x_placeOuters, x_procedureParts, x_procedurePlaces, x_continuationFrames, x_frameTasks, x_frameForms, x_frameValues, x_framePlaces, x_frameNexts, x_arguments, x_outputs, x_itemKinds, x_itemNumbers, x_openLists⟩ := u
  obtain ⟨y_size, y_pairs, y_open, y_formCount, y_places, y_procedures, y_continuationCount, y_things, y_foundCount, y_argumentCount, y_value, y_form, y_wherein, y_next, y_working, y_ending, y_counts, y_made, y_entered, y_printCount, y_itemCount, y_text, y_firsts, y_rests, y_heads, y_lasts, y_globals, y_placeNames, y_placeValues, y_placeNexts, y_procedureForms, y_procedurePlaces, y_continuations, y_whats, y_withs, y_whereins, y_soFars, y_afters, y_found, y_foundNexts, y_arguments, y_prints, y_itemKinds, y_itemNumbers, y_pile⟩ := v
  exact i_tokens I
theorem i_vc_untoken {k : Nat} {u : SX} {v : SY} (I : i_Rel k u v) (hk : k + 5 ≤ 2560) : wpX_untoken (fun r u' => wpY_untoken (fun r' v' => r' = r ∧ i_Rel (k + 5) u' v') v) u := by
  obtain ⟨x_textLength, x_pairCount, x_placeCount, x_procedureCount, x_continuationCount, x_frameCount, x_state, x_ending, x_form, x_environment, x_frame, x_value, x_applied, x_argumentCount, x_countedCount, x_consCount, x_entryCount, x_outputCount, x_itemCount, x_text, x_firsts, x_rests, x_placeNames, x_placeValues, x_placeOuters, x_procedureParts, x_procedurePlaces, x_continuationFrames, x_frameTasks, x_frameForms, x_frameValues, x_framePlaces, x_frameNexts, x_arguments, x_outputs, x_itemKinds, x_itemNumbers, x_openLists⟩ := u
  obtain ⟨y_size, y_pairs, y_open, y_formCount, y_places, y_procedures, y_continuationCount, y_things, y_foundCount, y_argumentCount, y_value, y_form, y_wherein, y_next, y_working, y_ending, y_counts, y_made, y_entered, y_printCount, y_itemCount, y_text, y_firsts, y_rests, y_heads, y_lasts, y_globals, y_placeNames, y_placeValues, y_placeNexts, y_procedureForms, y_procedurePlaces, y_continuations, y_whats, y_withs, y_whereins, y_soFars, y_afters, y_found, y_foundNexts, y_arguments, y_prints, y_itemKinds, y_itemNumbers, y_pile⟩ := v
  exact i_untoken I
theorem i_vc_clear {k : Nat} {u : SX} {v : SY} (I : i_Rel k u v) (hk : k + 5 ≤ 2560) : wpX_clear (fun u' => wpY_clear (fun v' => i_Rel (k + 5) u' v') v) u := by
  obtain ⟨x_textLength, x_pairCount, x_placeCount, x_procedureCount, x_continuationCount, x_frameCount, x_state, x_ending, x_form, x_environment, x_frame, x_value, x_applied, x_argumentCount, x_countedCount, x_consCount, x_entryCount, x_outputCount, x_itemCount, x_text, x_firsts, x_rests, x_placeNames, x_placeValues, x_placeOuters, x_procedureParts, x_procedurePlaces, x_continuationFrames, x_frameTasks, x_frameForms, x_frameValues, x_framePlaces, x_frameNexts, x_arguments, x_outputs, x_itemKinds, x_itemNumbers, x_openLists⟩ := u
  obtain ⟨y_size, y_pairs, y_open, y_formCount, y_places, y_procedures, y_continuationCount, y_things, y_foundCount, y_argumentCount, y_value, y_form, y_wherein, y_next, y_working, y_ending, y_counts, y_made, y_entered, y_printCount, y_itemCount, y_text, y_firsts, y_rests, y_heads, y_lasts, y_globals, y_placeNames, y_placeValues, y_placeNexts, y_procedureForms, y_procedurePlaces, y_continuations, y_whats, y_withs, y_whereins, y_soFars, y_afters, y_found, y_foundNexts, y_arguments, y_prints, y_itemKinds, y_itemNumbers, y_pile⟩ := v
  exact i_clear I
theorem i_vc_reads {k : Nat} {u : SX} {v : SY} (I : i_Rel k u v) (hk : k + 5 ≤ 2560) : wpX_reads (fun r => wpY_reads (fun r' v' => r' = r ∧ i_Rel (k + 5) u v') v) u := by
  obtain ⟨x_textLength, x_pairCount, x_placeCount, x_procedureCount, x_continuationCount, x_frameCount, x_state, x_ending, x_form, x_environment, x_frame, x_value, x_applied, x_argumentCount, x_countedCount, x_consCount, x_entryCount, x_outputCount, x_itemCount, x_text, x_firsts, x_rests, x_placeNames, x_placeValues, x_placeOuters, x_procedureParts, x_procedurePlaces, x_continuationFrames, x_frameTasks, x_frameForms, x_frameValues, x_framePlaces, x_frameNexts, x_arguments, x_outputs, x_itemKinds, x_itemNumbers, x_openLists⟩ := u
  obtain ⟨y_size, y_pairs, y_open, y_formCount, y_places, y_procedures, y_continuationCount, y_things, y_foundCount, y_argumentCount, y_value, y_form, y_wherein, y_next, y_working, y_ending, y_counts, y_made, y_entered, y_printCount, y_itemCount, y_text, y_firsts, y_rests, y_heads, y_lasts, y_globals, y_placeNames, y_placeValues, y_placeNexts, y_procedureForms, y_procedurePlaces, y_continuations, y_whats, y_withs, y_whereins, y_soFars, y_afters, y_found, y_foundNexts, y_arguments, y_prints, y_itemKinds, y_itemNumbers, y_pile⟩ := v
  exact i_reads I
theorem i_vc_forms {k : Nat} {u : SX} {v : SY} (I : i_Rel k u v) (hk : k + 5 ≤ 2560) : wpX_forms (fun r => wpY_forms (fun r' v' => r' = r ∧ i_Rel (k + 5) u v') v) u := by
  obtain ⟨x_textLength, x_pairCount, x_placeCount, x_procedureCount, x_continuationCount, x_frameCount, x_state, x_ending, x_form, x_environment, x_frame, x_value, x_applied, x_argumentCount, x_countedCount, x_consCount, x_entryCount, x_outputCount, x_itemCount, x_text, x_firsts, x_rests, x_placeNames, x_placeValues, x_placeOuters, x_procedureParts, x_procedurePlaces, x_continuationFrames, x_frameTasks, x_frameForms, x_frameValues, x_framePlaces, x_frameNexts, x_arguments, x_outputs, x_itemKinds, x_itemNumbers, x_openLists⟩ := u
  obtain ⟨y_size, y_pairs, y_open, y_formCount, y_places, y_procedures, y_continuationCount, y_things, y_foundCount, y_argumentCount, y_value, y_form, y_wherein, y_next, y_working, y_ending, y_counts, y_made, y_entered, y_printCount, y_itemCount, y_text, y_firsts, y_rests, y_heads, y_lasts, y_globals, y_placeNames, y_placeValues, y_placeNexts, y_procedureForms, y_procedurePlaces, y_continuations, y_whats, y_withs, y_whereins, y_soFars, y_afters, y_found, y_foundNexts, y_arguments, y_prints, y_itemKinds, y_itemNumbers, y_pile⟩ := v
  exact i_forms I
end
section
/-! what a step does to the relation -/
section
variable {x_textLength : Int32} {x_pairCount : Int32} {x_placeCount : Int32} {x_procedureCount : Int32} {x_continuationCount : Int32} {x_frameCount : Int32} {x_state : Int32} {x_ending : Int32} {x_form : Int64} {x_environment : Int32} {x_frame : Int32} {x_value : Int64} {x_applied : Int64} {x_argumentCount : Int32} {x_countedCount : Int32} {x_consCount : Int32} {x_entryCount : Int32} {x_outputCount : Int32} {x_itemCount : Int32} {x_text : Nat → Int32} {x_firsts : Nat → Int64} {x_rests : Nat → Int64} {x_placeNames : Nat → Int32} {x_placeValues : Nat → Int64} {x_placeOuters : Nat → Int32} {x_procedureParts : Nat → Int64} {x_procedurePlaces : Nat → Int32} {x_continuationFrames : Nat → Int32} {x_frameTasks : Nat → Int32} {x_frameForms : Nat → Int64} {x_frameValues : Nat → Int64} {x_framePlaces : Nat → Int32} {x_frameNexts : Nat → Int32} {x_arguments : Nat → Int64} {x_outputs : Nat → Int32} {x_itemKinds : Nat → Int32} {x_itemNumbers : Nat → Int32} {x_openLists : Nat → Int64}
variable {y_size : Int32} {y_pairs : Int32} {y_open : Int32} {y_formCount : Int32} {y_places : Int32} {y_procedures : Int32} {y_continuationCount : Int32} {y_things : Int32} {y_foundCount : Int32} {y_argumentCount : Int32} {y_value : Int64} {y_form : Int64} {y_wherein : Int32} {y_next : Int32} {y_working : Int32} {y_ending : Int32} {y_counts : Int32} {y_made : Int32} {y_entered : Int32} {y_printCount : Int32} {y_itemCount : Int32} {y_text : Nat → Int32} {y_firsts : Nat → Int64} {y_rests : Nat → Int64} {y_heads : Nat → Int32} {y_lasts : Nat → Int32} {y_globals : Nat → Int64} {y_placeNames : Nat → Int32} {y_placeValues : Nat → Int64} {y_placeNexts : Nat → Int32} {y_procedureForms : Nat → Int64} {y_procedurePlaces : Nat → Int32} {y_continuations : Nat → Int32} {y_whats : Nat → Int32} {y_withs : Nat → Int64} {y_whereins : Nat → Int32} {y_soFars : Nat → Int32} {y_afters : Nat → Int32} {y_found : Nat → Int64} {y_foundNexts : Nat → Int32} {y_arguments : Nat → Int64} {y_prints : Nat → Int32} {y_itemKinds : Nat → Int32} {y_itemNumbers : Nat → Int32} {y_pile : Nat → Int64}
variable {T : Nat → Nat} {n px py pl np nc nf fo co cn et pc : Nat} {M : Nat → Nat → Prop} {G : Nat → Nat}
/-- what the relation doesn't look at -/
theorem rk_ig {q1 q2 q4 q5 q8 : Int32} {q3 q6 q7 : Int64} {q9 q12 : Nat → Int64} {q10 q11 : Nat → Int32} {r1 r2 r3 r6 r7 r8 r9 r10 : Int32} {r4 r5 : Int64} {r11 r12 r14 r15 : Nat → Int32} {r13 r16 : Nat → Int64}
    (h : sm_R T n M G px py pl np nc nf fo co cn et pc (x_textLength, x_pairCount, x_placeCount, x_procedureCount, x_continuationCount, x_frameCount, x_state, x_ending, x_form, x_environment, x_frame, x_value, x_applied, x_argumentCount, x_countedCount, x_consCount, x_entryCount, x_outputCount, x_itemCount, x_text, x_firsts, x_rests, x_placeNames, x_placeValues, x_placeOuters, x_procedureParts, x_procedurePlaces, x_continuationFrames, x_frameTasks, x_frameForms, x_frameValues, x_framePlaces, x_frameNexts, x_arguments, x_outputs, x_itemKinds, x_itemNumbers, x_openLists) (y_size, y_pairs, y_open, y_formCount, y_places, y_procedures, y_continuationCount, y_things, y_foundCount, y_argumentCount, y_value, y_form, y_wherein, y_next, y_working, y_ending, y_counts, y_made, y_entered, y_printCount, y_itemCount, y_text, y_firsts, y_rests, y_heads, y_lasts, y_globals, y_placeNames, y_placeValues, y_placeNexts, y_procedureForms, y_procedurePlaces, y_continuations, y_whats, y_withs, y_whereins, y_soFars, y_afters, y_found, y_foundNexts, y_arguments, y_prints, y_itemKinds, y_itemNumbers, y_pile)) :
    sm_R T n M G px py pl np nc nf fo co cn et pc (x_textLength, x_pairCount, x_placeCount, x_procedureCount, x_continuationCount, x_frameCount, q1, q2, q3, q4, q5, q6, q7, q8, x_countedCount, x_consCount, x_entryCount, x_outputCount, x_itemCount, x_text, x_firsts, x_rests, x_placeNames, x_placeValues, x_placeOuters, x_procedureParts, x_procedurePlaces, x_continuationFrames, x_frameTasks, x_frameForms, x_frameValues, x_framePlaces, x_frameNexts, q9, x_outputs, q10, q11, q12)
      (y_size, y_pairs, r1, r2, y_places, y_procedures, y_continuationCount, y_things, y_foundCount, r3, r4, r5, r6, r7, r8, r9, y_counts, y_made, y_entered, y_printCount, r10, y_text, y_firsts, y_rests, r11, r12, y_globals, y_placeNames, y_placeValues, y_placeNexts, y_procedureForms, y_procedurePlaces, y_continuations, y_whats, y_withs, y_whereins, y_soFars, y_afters, y_found, y_foundNexts, r13, y_prints, r14, r15, r16) := by
  obtain ⟨a1, n1, m1, b1, c1, c2, c3, c4, c5, c6, c7, c8⟩ := h
  exact ⟨a1, n1, m1, b1, c1, c2, c3, c4, c5, c6, c7, c8⟩
theorem rk_count (h : sm_R T n M G px py pl np nc nf fo co cn et pc (x_textLength, x_pairCount, x_placeCount, x_procedureCount, x_continuationCount, x_frameCount, x_state, x_ending, x_form, x_environment, x_frame, x_value, x_applied, x_argumentCount, x_countedCount, x_consCount, x_entryCount, x_outputCount, x_itemCount, x_text, x_firsts, x_rests, x_placeNames, x_placeValues, x_placeOuters, x_procedureParts, x_procedurePlaces, x_continuationFrames, x_frameTasks, x_frameForms, x_frameValues, x_framePlaces, x_frameNexts, x_arguments, x_outputs, x_itemKinds, x_itemNumbers, x_openLists) (y_size, y_pairs, y_open, y_formCount, y_places, y_procedures, y_continuationCount, y_things, y_foundCount, y_argumentCount, y_value, y_form, y_wherein, y_next, y_working, y_ending, y_counts, y_made, y_entered, y_printCount, y_itemCount, y_text, y_firsts, y_rests, y_heads, y_lasts, y_globals, y_placeNames, y_placeValues, y_placeNexts, y_procedureForms, y_procedurePlaces, y_continuations, y_whats, y_withs, y_whereins, y_soFars, y_afters, y_found, y_foundNexts, y_arguments, y_prints, y_itemKinds, y_itemNumbers, y_pile)) (hc : co < 600) : sm_R T n M G px py pl np nc nf fo (co + 1) cn et pc (x_textLength, x_pairCount, x_placeCount, x_procedureCount, x_continuationCount, x_frameCount, x_state, x_ending, x_form, x_environment, x_frame, x_value, x_applied, x_argumentCount, nI (co + 1), x_consCount, x_entryCount, x_outputCount, x_itemCount, x_text, x_firsts, x_rests, x_placeNames, x_placeValues, x_placeOuters, x_procedureParts, x_procedurePlaces, x_continuationFrames, x_frameTasks, x_frameForms, x_frameValues, x_framePlaces, x_frameNexts, x_arguments, x_outputs, x_itemKinds, x_itemNumbers, x_openLists) (y_size, y_pairs, y_open, y_formCount, y_places, y_procedures, y_continuationCount, y_things, y_foundCount, y_argumentCount, y_value, y_form, y_wherein, y_next, y_working, y_ending, nI (co + 1), y_made, y_entered, y_printCount, y_itemCount, y_text, y_firsts, y_rests, y_heads, y_lasts, y_globals, y_placeNames, y_placeValues, y_placeNexts, y_procedureForms, y_procedurePlaces, y_continuations, y_whats, y_withs, y_whereins, y_soFars, y_afters, y_found, y_foundNexts, y_arguments, y_prints, y_itemKinds, y_itemNumbers, y_pile) := by
  obtain ⟨a, ⟨n1, n2, n3, n4, n5, n6, n7, n8, n9, n10, n11⟩, ⟨m1, m2, m3, m4, m5, m6, m7, m8, m9, m10, m11⟩, b, r⟩ := h
  exact ⟨a, ⟨n1, n2, n3, n4, n5, n6, rfl, n8, n9, n10, n11⟩, ⟨m1, m2, m3, m4, m5, m6, m7, rfl, m9, m10, m11⟩, by omega, r⟩
theorem rk_push {w : Int32} {fy fx : Int64} {ey ex sy f : Int32} {sx : Int64} (h : sm_R T n M G px py pl np nc nf fo co cn et pc (x_textLength, x_pairCount, x_placeCount, x_procedureCount, x_continuationCount, x_frameCount, x_state, x_ending, x_form, x_environment, x_frame, x_value, x_applied, x_argumentCount, x_countedCount, x_consCount, x_entryCount, x_outputCount, x_itemCount, x_text, x_firsts, x_rests, x_placeNames, x_placeValues, x_placeOuters, x_procedureParts, x_procedurePlaces, x_continuationFrames, x_frameTasks, x_frameForms, x_frameValues, x_framePlaces, x_frameNexts, x_arguments, x_outputs, x_itemKinds, x_itemNumbers, x_openLists) (y_size, y_pairs, y_open, y_formCount, y_places, y_procedures, y_continuationCount, y_things, y_foundCount, y_argumentCount, y_value, y_form, y_wherein, y_next, y_working, y_ending, y_counts, y_made, y_entered, y_printCount, y_itemCount, y_text, y_firsts, y_rests, y_heads, y_lasts, y_globals, y_placeNames, y_placeValues, y_placeNexts, y_procedureForms, y_procedurePlaces, y_continuations, y_whats, y_withs, y_whereins, y_soFars, y_afters, y_found, y_foundNexts, y_arguments, y_prints, y_itemKinds, y_itemNumbers, y_pile)) (he : en_R pl ey ex) (hf : fm_N nf f)
    (hk : (∃ z p, z < 2 ∧ w = nI z ∧ ls_P T n p ∧ p < n ∧ T p ≠ 1 ∧ fy = cd_yl T n p ∧ fx = cd_xl T n p) ∨
      (∃ z k, 2 ≤ z ∧ z < 4 ∧ w = nI z ∧ 30 ≤ k ∧ k ≤ 39 ∧ fy = zv_c 4 k ∧ fx = zv_c 1 k) ∨
      (∃ p, w = 4 ∧ ls_P T n p ∧ fy = cd_yl T n p ∧ fx = cd_xl T n p ∧ so_R G fo sy sx)) :
    sm_R T n M G px py pl np nc (nf + 1) fo co cn et pc (x_textLength, x_pairCount, x_placeCount, x_procedureCount, x_continuationCount, nI (nf + 1), x_state, x_ending, x_form, x_environment, x_frame, x_value, x_applied, x_argumentCount, x_countedCount, x_consCount, x_entryCount, x_outputCount, x_itemCount, x_text, x_firsts, x_rests, x_placeNames, x_placeValues, x_placeOuters, x_procedureParts, x_procedurePlaces, x_continuationFrames, upd x_frameTasks nf w, vp_updL x_frameForms nf fx, vp_updL x_frameValues nf sx, upd x_framePlaces nf ex, upd x_frameNexts nf f, x_arguments, x_outputs, x_itemKinds, x_itemNumbers, x_openLists)
      (y_size, y_pairs, y_open, y_formCount, y_places, y_procedures, y_continuationCount, nI (nf + 1), y_foundCount, y_argumentCount, y_value, y_form, y_wherein, y_next, y_working, y_ending, y_counts, y_made, y_entered, y_printCount, y_itemCount, y_text, y_firsts, y_rests, y_heads, y_lasts, y_globals, y_placeNames, y_placeValues, y_placeNexts, y_procedureForms, y_procedurePlaces, y_continuations, upd y_whats nf w, vp_updL y_withs nf fy, upd y_whereins nf ey, upd y_soFars nf sy, upd y_afters nf f, y_found, y_foundNexts, y_arguments, y_prints, y_itemKinds, y_itemNumbers, y_pile) := by
  obtain ⟨a, ⟨n1, n2, n3, n4, n5, n6, n7, n8, n9, n10, n11⟩, ⟨m1, m2, m3, m4, m5, m6, m7, m8, m9, m10, m11⟩, b, c1, c2, c3, c4, c5, c6, c7, c8⟩ := h
  exact ⟨a, ⟨n1, n2, n3, n4, n5, rfl, n7, n8, n9, n10, n11⟩, ⟨m1, m2, m3, m4, m5, rfl, m7, m8, m9, m10, m11⟩, b, c1, c2, c3, fr_push c4 he hf hk, c5, c6, ct_mono (by omega) c7, c8⟩
/-- a value is kept for an application -/
theorem rk_found {y x : Int64} {sy : Int32} {sx : Int64} (h : sm_R T n M G px py pl np nc nf fo co cn et pc (x_textLength, x_pairCount, x_placeCount, x_procedureCount, x_continuationCount, x_frameCount, x_state, x_ending, x_form, x_environment, x_frame, x_value, x_applied, x_argumentCount, x_countedCount, x_consCount, x_entryCount, x_outputCount, x_itemCount, x_text, x_firsts, x_rests, x_placeNames, x_placeValues, x_placeOuters, x_procedureParts, x_procedurePlaces, x_continuationFrames, x_frameTasks, x_frameForms, x_frameValues, x_framePlaces, x_frameNexts, x_arguments, x_outputs, x_itemKinds, x_itemNumbers, x_openLists) (y_size, y_pairs, y_open, y_formCount, y_places, y_procedures, y_continuationCount, y_things, y_foundCount, y_argumentCount, y_value, y_form, y_wherein, y_next, y_working, y_ending, y_counts, y_made, y_entered, y_printCount, y_itemCount, y_text, y_firsts, y_rests, y_heads, y_lasts, y_globals, y_placeNames, y_placeValues, y_placeNexts, y_procedureForms, y_procedurePlaces, y_continuations, y_whats, y_withs, y_whereins, y_soFars, y_afters, y_found, y_foundNexts, y_arguments, y_prints, y_itemKinds, y_itemNumbers, y_pile)) (hV : zv_V M np nc y x) (hs : so_R G fo sy sx) :
    sm_R T n M (fun k => if k = fo then px else G k) (px + 1) py pl np nc nf (fo + 1) co cn et pc (x_textLength, nI (px + 1), x_placeCount, x_procedureCount, x_continuationCount, x_frameCount, x_state, x_ending, x_form, x_environment, x_frame, x_value, x_applied, x_argumentCount, x_countedCount, x_consCount, x_entryCount, x_outputCount, x_itemCount, x_text, vp_updL x_firsts px x, vp_updL x_rests px sx, x_placeNames, x_placeValues, x_placeOuters, x_procedureParts, x_procedurePlaces, x_continuationFrames, x_frameTasks, x_frameForms, x_frameValues, x_framePlaces, x_frameNexts, x_arguments, x_outputs, x_itemKinds, x_itemNumbers, x_openLists) (y_size, y_pairs, y_open, y_formCount, y_places, y_procedures, y_continuationCount, y_things, nI (fo + 1), y_argumentCount, y_value, y_form, y_wherein, y_next, y_working, y_ending, y_counts, y_made, y_entered, y_printCount, y_itemCount, y_text, y_firsts, y_rests, y_heads, y_lasts, y_globals, y_placeNames, y_placeValues, y_placeNexts, y_procedureForms, y_procedurePlaces, y_continuations, y_whats, y_withs, y_whereins, y_soFars, y_afters, vp_updL y_found fo y, upd y_foundNexts fo sy, y_arguments, y_prints, y_itemKinds, y_itemNumbers, y_pile) := by
  obtain ⟨a, ⟨n1, n2, n3, n4, n5, n6, n7, n8, n9, n10, n11⟩, ⟨m1, m2, m3, m4, m5, m6, m7, m8, m9, m10, m11⟩, b, c1, c2, c3, c4, c5, c6, c7, c8⟩ := h
  exact ⟨a, ⟨n1, rfl, n3, n4, n5, n6, n7, n8, n9, n10, n11⟩, ⟨m1, m2, m3, m4, m5, m6, rfl, m8, m9, m10, m11⟩, by omega, cd_own c2.1 c1, ⟨hp_own c2.1, c2.2⟩, fd_push c2.1 c3 hV hs, fr_mono (by omega) (fun k hk => if_neg (by omega)) (Nat.le_refl _) c4, c5, c6, c7, c8⟩
theorem rk_cons {a b a' b' : Int64} (h : sm_R T n M G px py pl np nc nf fo co cn et pc (x_textLength, x_pairCount, x_placeCount, x_procedureCount, x_continuationCount, x_frameCount, x_state, x_ending, x_form, x_environment, x_frame, x_value, x_applied, x_argumentCount, x_countedCount, x_consCount, x_entryCount, x_outputCount, x_itemCount, x_text, x_firsts, x_rests, x_placeNames, x_placeValues, x_placeOuters, x_procedureParts, x_procedurePlaces, x_continuationFrames, x_frameTasks, x_frameForms, x_frameValues, x_framePlaces, x_frameNexts, x_arguments, x_outputs, x_itemKinds, x_itemNumbers, x_openLists) (y_size, y_pairs, y_open, y_formCount, y_places, y_procedures, y_continuationCount, y_things, y_foundCount, y_argumentCount, y_value, y_form, y_wherein, y_next, y_working, y_ending, y_counts, y_made, y_entered, y_printCount, y_itemCount, y_text, y_firsts, y_rests, y_heads, y_lasts, y_globals, y_placeNames, y_placeValues, y_placeNexts, y_procedureForms, y_procedurePlaces, y_continuations, y_whats, y_withs, y_whereins, y_soFars, y_afters, y_found, y_foundNexts, y_arguments, y_prints, y_itemKinds, y_itemNumbers, y_pile)) (hc : cn + 1 ≤ co) (hV : zv_V M np nc a a') (hW : zv_V M np nc b b') :
    sm_R T n (hp_M M py px) G (px + 1) (py + 1) pl np nc nf fo co (cn + 1) et pc (x_textLength, nI (px + 1), x_placeCount, x_procedureCount, x_continuationCount, x_frameCount, x_state, x_ending, x_form, x_environment, x_frame, x_value, x_applied, x_argumentCount, x_countedCount, nI (cn + 1), x_entryCount, x_outputCount, x_itemCount, x_text, vp_updL x_firsts px a', vp_updL x_rests px b', x_placeNames, x_placeValues, x_placeOuters, x_procedureParts, x_procedurePlaces, x_continuationFrames, x_frameTasks, x_frameForms, x_frameValues, x_framePlaces, x_frameNexts, x_arguments, x_outputs, x_itemKinds, x_itemNumbers, x_openLists) (y_size, nI (py + 1), y_open, y_formCount, y_places, y_procedures, y_continuationCount, y_things, y_foundCount, y_argumentCount, y_value, y_form, y_wherein, y_next, y_working, y_ending, y_counts, nI (cn + 1), y_entered, y_printCount, y_itemCount, y_text, vp_updL y_firsts py a, vp_updL y_rests py b, y_heads, y_lasts, y_globals, y_placeNames, y_placeValues, y_placeNexts, y_procedureForms, y_procedurePlaces, y_continuations, y_whats, y_withs, y_whereins, y_soFars, y_afters, y_found, y_foundNexts, y_arguments, y_prints, y_itemKinds, y_itemNumbers, y_pile) := by
  obtain ⟨a1, ⟨n1, n2, n3, n4, n5, n6, n7, n8, n9, n10, n11⟩, ⟨m1, m2, m3, m4, m5, m6, m7, m8, m9, m10, m11⟩, b1, c1, c2, c3, c4, c5, c6, c7, c8⟩ := h
  have hm : ∀ p q, M p q → hp_M M py px p q := fun p q h => Or.inl h
  refine ⟨a1, ⟨n1, rfl, n3, n4, n5, n6, n7, rfl, n9, n10, n11⟩, ⟨m1, rfl, m3, m4, m5, m6, m7, m8, rfl, m10, m11⟩, by omega, ?_, ⟨hp_cons c2.1 hV hW, fun p q h => Or.inl (c2.2 p q h)⟩, ?_, c4, pl_mono hm (Nat.le_refl _) (Nat.le_refl _) c5, c6, c7, c8⟩
  · exact cd_own' c2.1 c1
  · exact fd_up (by omega) (fd_mono hm (fun p q z => z.elim Or.inl (fun w => Or.inr w.2)) (Nat.le_refl _) (Nat.le_refl _) c3)
theorem rk_set {p q : Nat} {a b a' b' : Int64} (h : sm_R T n M G px py pl np nc nf fo co cn et pc (x_textLength, x_pairCount, x_placeCount, x_procedureCount, x_continuationCount, x_frameCount, x_state, x_ending, x_form, x_environment, x_frame, x_value, x_applied, x_argumentCount, x_countedCount, x_consCount, x_entryCount, x_outputCount, x_itemCount, x_text, x_firsts, x_rests, x_placeNames, x_placeValues, x_placeOuters, x_procedureParts, x_procedurePlaces, x_continuationFrames, x_frameTasks, x_frameForms, x_frameValues, x_framePlaces, x_frameNexts, x_arguments, x_outputs, x_itemKinds, x_itemNumbers, x_openLists) (y_size, y_pairs, y_open, y_formCount, y_places, y_procedures, y_continuationCount, y_things, y_foundCount, y_argumentCount, y_value, y_form, y_wherein, y_next, y_working, y_ending, y_counts, y_made, y_entered, y_printCount, y_itemCount, y_text, y_firsts, y_rests, y_heads, y_lasts, y_globals, y_placeNames, y_placeValues, y_placeNexts, y_procedureForms, y_procedurePlaces, y_continuations, y_whats, y_withs, y_whereins, y_soFars, y_afters, y_found, y_foundNexts, y_arguments, y_prints, y_itemKinds, y_itemNumbers, y_pile)) (hM : M p q) (hV : zv_V M np nc a a') (hW : zv_V M np nc b b') :
    sm_R T n M G px py pl np nc nf fo co cn et pc (x_textLength, x_pairCount, x_placeCount, x_procedureCount, x_continuationCount, x_frameCount, x_state, x_ending, x_form, x_environment, x_frame, x_value, x_applied, x_argumentCount, x_countedCount, x_consCount, x_entryCount, x_outputCount, x_itemCount, x_text, vp_updL x_firsts q a', vp_updL x_rests q b', x_placeNames, x_placeValues, x_placeOuters, x_procedureParts, x_procedurePlaces, x_continuationFrames, x_frameTasks, x_frameForms, x_frameValues, x_framePlaces, x_frameNexts, x_arguments, x_outputs, x_itemKinds, x_itemNumbers, x_openLists) (y_size, y_pairs, y_open, y_formCount, y_places, y_procedures, y_continuationCount, y_things, y_foundCount, y_argumentCount, y_value, y_form, y_wherein, y_next, y_working, y_ending, y_counts, y_made, y_entered, y_printCount, y_itemCount, y_text, vp_updL y_firsts p a, vp_updL y_rests p b, y_heads, y_lasts, y_globals, y_placeNames, y_placeValues, y_placeNexts, y_procedureForms, y_procedurePlaces, y_continuations, y_whats, y_withs, y_whereins, y_soFars, y_afters, y_found, y_foundNexts, y_arguments, y_prints, y_itemKinds, y_itemNumbers, y_pile) := by
  obtain ⟨a1, n1, m1, b1, c1, c2, c3, c4, c5, c6, c7, c8⟩ := h
  exact ⟨a1, n1, m1, b1, cd_set c2.1 hM c1, ⟨hp_set c2.1 hM hV hW, c2.2⟩, fd_set hM c3, c4, c5, c6, c7, c8⟩
theorem rk_place {k : Nat} {y x : Int64} {ey ex : Int32} (h : sm_R T n M G px py pl np nc nf fo co cn et pc (x_textLength, x_pairCount, x_placeCount, x_procedureCount, x_continuationCount, x_frameCount, x_state, x_ending, x_form, x_environment, x_frame, x_value, x_applied, x_argumentCount, x_countedCount, x_consCount, x_entryCount, x_outputCount, x_itemCount, x_text, x_firsts, x_rests, x_placeNames, x_placeValues, x_placeOuters, x_procedureParts, x_procedurePlaces, x_continuationFrames, x_frameTasks, x_frameForms, x_frameValues, x_framePlaces, x_frameNexts, x_arguments, x_outputs, x_itemKinds, x_itemNumbers, x_openLists) (y_size, y_pairs, y_open, y_formCount, y_places, y_procedures, y_continuationCount, y_things, y_foundCount, y_argumentCount, y_value, y_form, y_wherein, y_next, y_working, y_ending, y_counts, y_made, y_entered, y_printCount, y_itemCount, y_text, y_firsts, y_rests, y_heads, y_lasts, y_globals, y_placeNames, y_placeValues, y_placeNexts, y_procedureForms, y_procedurePlaces, y_continuations, y_whats, y_withs, y_whereins, y_soFars, y_afters, y_found, y_foundNexts, y_arguments, y_prints, y_itemKinds, y_itemNumbers, y_pile)) (hc : pl + 1 ≤ 4 * co) (h1 : 30 ≤ k) (h2 : k ≤ 39) (hV : zv_V M np nc y x) (he : en_R pl ey ex) :
    sm_R T n M G px py (pl + 1) np nc nf fo co cn et pc (x_textLength, x_pairCount, nI (pl + 1 + 10), x_procedureCount, x_continuationCount, x_frameCount, x_state, x_ending, x_form, x_environment, x_frame, x_value, x_applied, x_argumentCount, x_countedCount, x_consCount, x_entryCount, x_outputCount, x_itemCount, x_text, x_firsts, x_rests, upd x_placeNames (pl + 10) (nI k), vp_updL x_placeValues (pl + 10) x, upd x_placeOuters (pl + 10) ex, x_procedureParts, x_procedurePlaces, x_continuationFrames, x_frameTasks, x_frameForms, x_frameValues, x_framePlaces, x_frameNexts, x_arguments, x_outputs, x_itemKinds, x_itemNumbers, x_openLists)
      (y_size, y_pairs, y_open, y_formCount, nI (pl + 1), y_procedures, y_continuationCount, y_things, y_foundCount, y_argumentCount, y_value, y_form, y_wherein, y_next, y_working, y_ending, y_counts, y_made, y_entered, y_printCount, y_itemCount, y_text, y_firsts, y_rests, y_heads, y_lasts, y_globals, upd y_placeNames pl (nI k), vp_updL y_placeValues pl y, upd y_placeNexts pl ey, y_procedureForms, y_procedurePlaces, y_continuations, y_whats, y_withs, y_whereins, y_soFars, y_afters, y_found, y_foundNexts, y_arguments, y_prints, y_itemKinds, y_itemNumbers, y_pile) := by
  obtain ⟨a, ⟨n1, n2, n3, n4, n5, n6, n7, n8, n9, n10, n11⟩, ⟨m1, m2, m3, m4, m5, m6, m7, m8, m9, m10, m11⟩, b, c1, c2, c3, c4, c5, c6, c7, c8⟩ := h
  exact ⟨a, ⟨n1, n2, rfl, n4, n5, n6, n7, n8, n9, n10, n11⟩, ⟨m1, m2, rfl, m4, m5, m6, m7, m8, m9, m10, m11⟩, by omega, c1, c2, c3, fr_mono (Nat.le_refl _) (fun _ _ => rfl) (by omega) c4, pl_new c5 h1 h2 hV he, pc_mono (by omega) c6, c7, c8⟩
theorem rk_glob {k : Nat} {y x : Int64} (h : sm_R T n M G px py pl np nc nf fo co cn et pc (x_textLength, x_pairCount, x_placeCount, x_procedureCount, x_continuationCount, x_frameCount, x_state, x_ending, x_form, x_environment, x_frame, x_value, x_applied, x_argumentCount, x_countedCount, x_consCount, x_entryCount, x_outputCount, x_itemCount, x_text, x_firsts, x_rests, x_placeNames, x_placeValues, x_placeOuters, x_procedureParts, x_procedurePlaces, x_continuationFrames, x_frameTasks, x_frameForms, x_frameValues, x_framePlaces, x_frameNexts, x_arguments, x_outputs, x_itemKinds, x_itemNumbers, x_openLists) (y_size, y_pairs, y_open, y_formCount, y_places, y_procedures, y_continuationCount, y_things, y_foundCount, y_argumentCount, y_value, y_form, y_wherein, y_next, y_working, y_ending, y_counts, y_made, y_entered, y_printCount, y_itemCount, y_text, y_firsts, y_rests, y_heads, y_lasts, y_globals, y_placeNames, y_placeValues, y_placeNexts, y_procedureForms, y_procedurePlaces, y_continuations, y_whats, y_withs, y_whereins, y_soFars, y_afters, y_found, y_foundNexts, y_arguments, y_prints, y_itemKinds, y_itemNumbers, y_pile)) (hk : k < 10) (hV : zv_V M np nc y x) :
    sm_R T n M G px py pl np nc nf fo co cn et pc (x_textLength, x_pairCount, x_placeCount, x_procedureCount, x_continuationCount, x_frameCount, x_state, x_ending, x_form, x_environment, x_frame, x_value, x_applied, x_argumentCount, x_countedCount, x_consCount, x_entryCount, x_outputCount, x_itemCount, x_text, x_firsts, x_rests, x_placeNames, vp_updL x_placeValues k x, x_placeOuters, x_procedureParts, x_procedurePlaces, x_continuationFrames, x_frameTasks, x_frameForms, x_frameValues, x_framePlaces, x_frameNexts, x_arguments, x_outputs, x_itemKinds, x_itemNumbers, x_openLists) (y_size, y_pairs, y_open, y_formCount, y_places, y_procedures, y_continuationCount, y_things, y_foundCount, y_argumentCount, y_value, y_form, y_wherein, y_next, y_working, y_ending, y_counts, y_made, y_entered, y_printCount, y_itemCount, y_text, y_firsts, y_rests, y_heads, y_lasts, vp_updL y_globals k y, y_placeNames, y_placeValues, y_placeNexts, y_procedureForms, y_procedurePlaces, y_continuations, y_whats, y_withs, y_whereins, y_soFars, y_afters, y_found, y_foundNexts, y_arguments, y_prints, y_itemKinds, y_itemNumbers, y_pile) := by
  obtain ⟨a1, n1, m1, b1, c1, c2, c3, c4, c5, c6, c7, c8⟩ := h
  exact ⟨a1, n1, m1, b1, c1, c2, c3, c4, pl_glob c5 hk hV, c6, c7, c8⟩
theorem rk_loc {k : Nat} {y x : Int64} (h : sm_R T n M G px py pl np nc nf fo co cn et pc (x_textLength, x_pairCount, x_placeCount, x_procedureCount, x_continuationCount, x_frameCount, x_state, x_ending, x_form, x_environment, x_frame, x_value, x_applied, x_argumentCount, x_countedCount, x_consCount, x_entryCount, x_outputCount, x_itemCount, x_text, x_firsts, x_rests, x_placeNames, x_placeValues, x_placeOuters, x_procedureParts, x_procedurePlaces, x_continuationFrames, x_frameTasks, x_frameForms, x_frameValues, x_framePlaces, x_frameNexts, x_arguments, x_outputs, x_itemKinds, x_itemNumbers, x_openLists) (y_size, y_pairs, y_open, y_formCount, y_places, y_procedures, y_continuationCount, y_things, y_foundCount, y_argumentCount, y_value, y_form, y_wherein, y_next, y_working, y_ending, y_counts, y_made, y_entered, y_printCount, y_itemCount, y_text, y_firsts, y_rests, y_heads, y_lasts, y_globals, y_placeNames, y_placeValues, y_placeNexts, y_procedureForms, y_procedurePlaces, y_continuations, y_whats, y_withs, y_whereins, y_soFars, y_afters, y_found, y_foundNexts, y_arguments, y_prints, y_itemKinds, y_itemNumbers, y_pile)) (hV : zv_V M np nc y x) :
    sm_R T n M G px py pl np nc nf fo co cn et pc (x_textLength, x_pairCount, x_placeCount, x_procedureCount, x_continuationCount, x_frameCount, x_state, x_ending, x_form, x_environment, x_frame, x_value, x_applied, x_argumentCount, x_countedCount, x_consCount, x_entryCount, x_outputCount, x_itemCount, x_text, x_firsts, x_rests, x_placeNames, vp_updL x_placeValues (k + 10) x, x_placeOuters, x_procedureParts, x_procedurePlaces, x_continuationFrames, x_frameTasks, x_frameForms, x_frameValues, x_framePlaces, x_frameNexts, x_arguments, x_outputs, x_itemKinds, x_itemNumbers, x_openLists) (y_size, y_pairs, y_open, y_formCount, y_places, y_procedures, y_continuationCount, y_things, y_foundCount, y_argumentCount, y_value, y_form, y_wherein, y_next, y_working, y_ending, y_counts, y_made, y_entered, y_printCount, y_itemCount, y_text, y_firsts, y_rests, y_heads, y_lasts, y_globals, y_placeNames, vp_updL y_placeValues k y, y_placeNexts, y_procedureForms, y_procedurePlaces, y_continuations, y_whats, y_withs, y_whereins, y_soFars, y_afters, y_found, y_foundNexts, y_arguments, y_prints, y_itemKinds, y_itemNumbers, y_pile) := by
  obtain ⟨a1, n1, m1, b1, c1, c2, c3, c4, c5, c6, c7, c8⟩ := h
  exact ⟨a1, n1, m1, b1, c1, c2, c3, c4, pl_loc c5 hV, c6, c7, c8⟩
theorem rk_proc {p c : Nat} {y x : Int32} (h : sm_R T n M G px py pl np nc nf fo co cn et pc (x_textLength, x_pairCount, x_placeCount, x_procedureCount, x_continuationCount, x_frameCount, x_state, x_ending, x_form, x_environment, x_frame, x_value, x_applied, x_argumentCount, x_countedCount, x_consCount, x_entryCount, x_outputCount, x_itemCount, x_text, x_firsts, x_rests, x_placeNames, x_placeValues, x_placeOuters, x_procedureParts, x_procedurePlaces, x_continuationFrames, x_frameTasks, x_frameForms, x_frameValues, x_framePlaces, x_frameNexts, x_arguments, x_outputs, x_itemKinds, x_itemNumbers, x_openLists) (y_size, y_pairs, y_open, y_formCount, y_places, y_procedures, y_continuationCount, y_things, y_foundCount, y_argumentCount, y_value, y_form, y_wherein, y_next, y_working, y_ending, y_counts, y_made, y_entered, y_printCount, y_itemCount, y_text, y_firsts, y_rests, y_heads, y_lasts, y_globals, y_placeNames, y_placeValues, y_placeNexts, y_procedureForms, y_procedurePlaces, y_continuations, y_whats, y_withs, y_whereins, y_soFars, y_afters, y_found, y_foundNexts, y_arguments, y_prints, y_itemKinds, y_itemNumbers, y_pile)) (hc : np + 1 ≤ co) (he : en_R pl y x) (h1 : ls_P T n p) (h2 : p < n) (h3 : na_L T p c) (h4 : pz_nx T n p < n) (h5 : T (pz_nx T n p) ≠ 1) :
    sm_R T n M G px py pl (np + 1) nc nf fo co cn et pc (x_textLength, x_pairCount, x_placeCount, nI (np + 1), x_continuationCount, x_frameCount, x_state, x_ending, x_form, x_environment, x_frame, x_value, x_applied, x_argumentCount, x_countedCount, x_consCount, x_entryCount, x_outputCount, x_itemCount, x_text, x_firsts, x_rests, x_placeNames, x_placeValues, x_placeOuters, vp_updL x_procedureParts np (cd_xl T n p), upd x_procedurePlaces np x, x_continuationFrames, x_frameTasks, x_frameForms, x_frameValues, x_framePlaces, x_frameNexts, x_arguments, x_outputs, x_itemKinds, x_itemNumbers, x_openLists)
      (y_size, y_pairs, y_open, y_formCount, y_places, nI (np + 1), y_continuationCount, y_things, y_foundCount, y_argumentCount, y_value, y_form, y_wherein, y_next, y_working, y_ending, y_counts, y_made, y_entered, y_printCount, y_itemCount, y_text, y_firsts, y_rests, y_heads, y_lasts, y_globals, y_placeNames, y_placeValues, y_placeNexts, vp_updL y_procedureForms np (cd_yl T n p), upd y_procedurePlaces np y, y_continuations, y_whats, y_withs, y_whereins, y_soFars, y_afters, y_found, y_foundNexts, y_arguments, y_prints, y_itemKinds, y_itemNumbers, y_pile) := by
  obtain ⟨a, ⟨n1, n2, n3, n4, n5, n6, n7, n8, n9, n10, n11⟩, ⟨m1, m2, m3, m4, m5, m6, m7, m8, m9, m10, m11⟩, b, c1, c2, c3, c4, c5, c6, c7, c8⟩ := h
  exact ⟨a, ⟨n1, n2, n3, rfl, n5, n6, n7, n8, n9, n10, n11⟩, ⟨m1, m2, m3, rfl, m5, m6, m7, m8, m9, m10, m11⟩, by omega, c1, ⟨hp_mono (by omega) (Nat.le_refl _) c2.1, c2.2⟩, fd_mono (fun _ _ h => h) (fun _ _ h => Or.inl h) (by omega) (Nat.le_refl _) c3, c4, pl_mono (fun _ _ h => h) (by omega) (Nat.le_refl _) c5, pc_push c6 he h1 h2 h3 h4 h5, c7, c8⟩
theorem rk_cont {f : Int32} (h : sm_R T n M G px py pl np nc nf fo co cn et pc (x_textLength, x_pairCount, x_placeCount, x_procedureCount, x_continuationCount, x_frameCount, x_state, x_ending, x_form, x_environment, x_frame, x_value, x_applied, x_argumentCount, x_countedCount, x_consCount, x_entryCount, x_outputCount, x_itemCount, x_text, x_firsts, x_rests, x_placeNames, x_placeValues, x_placeOuters, x_procedureParts, x_procedurePlaces, x_continuationFrames, x_frameTasks, x_frameForms, x_frameValues, x_framePlaces, x_frameNexts, x_arguments, x_outputs, x_itemKinds, x_itemNumbers, x_openLists) (y_size, y_pairs, y_open, y_formCount, y_places, y_procedures, y_continuationCount, y_things, y_foundCount, y_argumentCount, y_value, y_form, y_wherein, y_next, y_working, y_ending, y_counts, y_made, y_entered, y_printCount, y_itemCount, y_text, y_firsts, y_rests, y_heads, y_lasts, y_globals, y_placeNames, y_placeValues, y_placeNexts, y_procedureForms, y_procedurePlaces, y_continuations, y_whats, y_withs, y_whereins, y_soFars, y_afters, y_found, y_foundNexts, y_arguments, y_prints, y_itemKinds, y_itemNumbers, y_pile)) (hc : nc + 1 ≤ co) (hf : fm_N nf f) :
    sm_R T n M G px py pl np (nc + 1) nf fo co cn et pc (x_textLength, x_pairCount, x_placeCount, x_procedureCount, nI (nc + 1), x_frameCount, x_state, x_ending, x_form, x_environment, x_frame, x_value, x_applied, x_argumentCount, x_countedCount, x_consCount, x_entryCount, x_outputCount, x_itemCount, x_text, x_firsts, x_rests, x_placeNames, x_placeValues, x_placeOuters, x_procedureParts, x_procedurePlaces, upd x_continuationFrames nc f, x_frameTasks, x_frameForms, x_frameValues, x_framePlaces, x_frameNexts, x_arguments, x_outputs, x_itemKinds, x_itemNumbers, x_openLists) (y_size, y_pairs, y_open, y_formCount, y_places, y_procedures, nI (nc + 1), y_things, y_foundCount, y_argumentCount, y_value, y_form, y_wherein, y_next, y_working, y_ending, y_counts, y_made, y_entered, y_printCount, y_itemCount, y_text, y_firsts, y_rests, y_heads, y_lasts, y_globals, y_placeNames, y_placeValues, y_placeNexts, y_procedureForms, y_procedurePlaces, upd y_continuations nc f, y_whats, y_withs, y_whereins, y_soFars, y_afters, y_found, y_foundNexts, y_arguments, y_prints, y_itemKinds, y_itemNumbers, y_pile) := by
  obtain ⟨a, ⟨n1, n2, n3, n4, n5, n6, n7, n8, n9, n10, n11⟩, ⟨m1, m2, m3, m4, m5, m6, m7, m8, m9, m10, m11⟩, b, c1, c2, c3, c4, c5, c6, c7, c8⟩ := h
  exact ⟨a, ⟨n1, n2, n3, n4, rfl, n6, n7, n8, n9, n10, n11⟩, ⟨m1, m2, m3, m4, rfl, m6, m7, m8, m9, m10, m11⟩, by omega, c1, ⟨hp_mono (Nat.le_refl _) (by omega) c2.1, c2.2⟩, fd_mono (fun _ _ h => h) (fun _ _ h => Or.inl h) (Nat.le_refl _) (by omega) c3, c4, pl_mono (fun _ _ h => h) (Nat.le_refl _) (by omega) c5, c6, ct_push c7 hf, c8⟩
theorem rk_print {x : Int32} (h : sm_R T n M G px py pl np nc nf fo co cn et pc (x_textLength, x_pairCount, x_placeCount, x_procedureCount, x_continuationCount, x_frameCount, x_state, x_ending, x_form, x_environment, x_frame, x_value, x_applied, x_argumentCount, x_countedCount, x_consCount, x_entryCount, x_outputCount, x_itemCount, x_text, x_firsts, x_rests, x_placeNames, x_placeValues, x_placeOuters, x_procedureParts, x_procedurePlaces, x_continuationFrames, x_frameTasks, x_frameForms, x_frameValues, x_framePlaces, x_frameNexts, x_arguments, x_outputs, x_itemKinds, x_itemNumbers, x_openLists) (y_size, y_pairs, y_open, y_formCount, y_places, y_procedures, y_continuationCount, y_things, y_foundCount, y_argumentCount, y_value, y_form, y_wherein, y_next, y_working, y_ending, y_counts, y_made, y_entered, y_printCount, y_itemCount, y_text, y_firsts, y_rests, y_heads, y_lasts, y_globals, y_placeNames, y_placeValues, y_placeNexts, y_procedureForms, y_procedurePlaces, y_continuations, y_whats, y_withs, y_whereins, y_soFars, y_afters, y_found, y_foundNexts, y_arguments, y_prints, y_itemKinds, y_itemNumbers, y_pile)) (hc : pc < 20) :
    sm_R T n M G px py pl np nc nf fo co cn et (pc + 1) (x_textLength, x_pairCount, x_placeCount, x_procedureCount, x_continuationCount, x_frameCount, x_state, x_ending, x_form, x_environment, x_frame, x_value, x_applied, x_argumentCount, x_countedCount, x_consCount, x_entryCount, nI (pc + 1), x_itemCount, x_text, x_firsts, x_rests, x_placeNames, x_placeValues, x_placeOuters, x_procedureParts, x_procedurePlaces, x_continuationFrames, x_frameTasks, x_frameForms, x_frameValues, x_framePlaces, x_frameNexts, x_arguments, upd x_outputs pc x, x_itemKinds, x_itemNumbers, x_openLists) (y_size, y_pairs, y_open, y_formCount, y_places, y_procedures, y_continuationCount, y_things, y_foundCount, y_argumentCount, y_value, y_form, y_wherein, y_next, y_working, y_ending, y_counts, y_made, y_entered, nI (pc + 1), y_itemCount, y_text, y_firsts, y_rests, y_heads, y_lasts, y_globals, y_placeNames, y_placeValues, y_placeNexts, y_procedureForms, y_procedurePlaces, y_continuations, y_whats, y_withs, y_whereins, y_soFars, y_afters, y_found, y_foundNexts, y_arguments, upd y_prints pc x, y_itemKinds, y_itemNumbers, y_pile) := by
  obtain ⟨a, ⟨n1, n2, n3, n4, n5, n6, n7, n8, n9, n10, n11⟩, ⟨m1, m2, m3, m4, m5, m6, m7, m8, m9, m10, m11⟩, b, c1, c2, c3, c4, c5, c6, c7, c8⟩ := h
  refine ⟨a, ⟨n1, n2, n3, n4, n5, n6, n7, n8, n9, rfl, n11⟩, ⟨m1, m2, m3, m4, m5, m6, m7, m8, m9, m10, rfl⟩, by omega, c1, c2, c3, c4, c5, c6, c7, fun i hi => ?_⟩
  by_cases z : i = pc
  · rw [z, pk_us, pk_us]
  · rw [pk_un z, pk_un z]
    exact c8 i (by omega)
theorem rk_entry (h : sm_R T n M G px py pl np nc nf fo co cn et pc (x_textLength, x_pairCount, x_placeCount, x_procedureCount, x_continuationCount, x_frameCount, x_state, x_ending, x_form, x_environment, x_frame, x_value, x_applied, x_argumentCount, x_countedCount, x_consCount, x_entryCount, x_outputCount, x_itemCount, x_text, x_firsts, x_rests, x_placeNames, x_placeValues, x_placeOuters, x_procedureParts, x_procedurePlaces, x_continuationFrames, x_frameTasks, x_frameForms, x_frameValues, x_framePlaces, x_frameNexts, x_arguments, x_outputs, x_itemKinds, x_itemNumbers, x_openLists) (y_size, y_pairs, y_open, y_formCount, y_places, y_procedures, y_continuationCount, y_things, y_foundCount, y_argumentCount, y_value, y_form, y_wherein, y_next, y_working, y_ending, y_counts, y_made, y_entered, y_printCount, y_itemCount, y_text, y_firsts, y_rests, y_heads, y_lasts, y_globals, y_placeNames, y_placeValues, y_placeNexts, y_procedureForms, y_procedurePlaces, y_continuations, y_whats, y_withs, y_whereins, y_soFars, y_afters, y_found, y_foundNexts, y_arguments, y_prints, y_itemKinds, y_itemNumbers, y_pile)) : sm_R T n M G px py pl np nc nf fo co cn (et + 1) pc (x_textLength, x_pairCount, x_placeCount, x_procedureCount, x_continuationCount, x_frameCount, x_state, x_ending, x_form, x_environment, x_frame, x_value, x_applied, x_argumentCount, x_countedCount, x_consCount, nI (et + 1), x_outputCount, x_itemCount, x_text, x_firsts, x_rests, x_placeNames, x_placeValues, x_placeOuters, x_procedureParts, x_procedurePlaces, x_continuationFrames, x_frameTasks, x_frameForms, x_frameValues, x_framePlaces, x_frameNexts, x_arguments, x_outputs, x_itemKinds, x_itemNumbers, x_openLists) (y_size, y_pairs, y_open, y_formCount, y_places, y_procedures, y_continuationCount, y_things, y_foundCount, y_argumentCount, y_value, y_form, y_wherein, y_next, y_working, y_ending, y_counts, y_made, nI (et + 1), y_printCount, y_itemCount, y_text, y_firsts, y_rests, y_heads, y_lasts, y_globals, y_placeNames, y_placeValues, y_placeNexts, y_procedureForms, y_procedurePlaces, y_continuations, y_whats, y_withs, y_whereins, y_soFars, y_afters, y_found, y_foundNexts, y_arguments, y_prints, y_itemKinds, y_itemNumbers, y_pile) := by
  obtain ⟨a, ⟨n1, n2, n3, n4, n5, n6, n7, n8, n9, n10, n11⟩, ⟨m1, m2, m3, m4, m5, m6, m7, m8, m9, m10, m11⟩, b, r⟩ := h
  exact ⟨a, ⟨n1, n2, n3, n4, n5, n6, n7, n8, rfl, n10, n11⟩, ⟨m1, m2, m3, m4, m5, m6, m7, m8, m9, rfl, m11⟩, b, r⟩
end
end
section
/-! the modes of a run; frames; forms in order -/
def sm_F (T : Nat → Nat) (n co : Nat) (u : SX) (v : SY) : Prop := ∃ M G px py pl np nc nf fo cn et pc j, sm_R T n M G px py pl np nc nf fo co cn et pc u v ∧ (fo ≤ co + 1 ∧ nf ≤ co + 1) ∧
  match u, v with
  | (x_textLength, x_pairCount, x_placeCount, x_procedureCount, x_continuationCount, x_frameCount, x_state, x_ending, x_form, x_environment, x_frame, x_value, x_applied, x_argumentCount, x_countedCount, x_consCount, x_entryCount, x_outputCount, x_itemCount, x_text, x_firsts, x_rests, x_placeNames, x_placeValues, x_placeOuters, x_procedureParts, x_procedurePlaces, x_continuationFrames, x_frameTasks, x_frameForms, x_frameValues, x_framePlaces, x_frameNexts, x_arguments, x_outputs, x_itemKinds, x_itemNumbers, x_openLists), (y_size, y_pairs, y_open, y_formCount, y_places, y_procedures, y_continuationCount, y_things, y_foundCount, y_argumentCount, y_value, y_form, y_wherein, y_next, y_working, y_ending, y_counts, y_made, y_entered, y_printCount, y_itemCount, y_text, y_firsts, y_rests, y_heads, y_lasts, y_globals, y_placeNames, y_placeValues, y_placeNexts, y_procedureForms, y_procedurePlaces, y_continuations, y_whats, y_withs, y_whereins, y_soFars, y_afters, y_found, y_foundNexts, y_arguments, y_prints, y_itemKinds, y_itemNumbers, y_pile) => x_state = 0 ∧ x_ending = -1 ∧ y_ending = -1000000003 ∧ y_working = 1 ∧ (j < n ∧ T j ≠ 1 ∧ pz_CF T j) ∧ x_form = cd_xv T n j ∧ y_form = cd_yv T n j ∧ en_R pl y_wherein x_environment ∧ x_frame = y_next ∧ fm_N nf y_next
def sm_V (T : Nat → Nat) (n co f : Nat) (u : SX) (v : SY) : Prop := ∃ M G px py pl np nc nf fo cn et pc, sm_R T n M G px py pl np nc nf fo co cn et pc u v ∧ (fo ≤ co ∧ nf ≤ co) ∧
  match u, v with
  | (x_textLength, x_pairCount, x_placeCount, x_procedureCount, x_continuationCount, x_frameCount, x_state, x_ending, x_form, x_environment, x_frame, x_value, x_applied, x_argumentCount, x_countedCount, x_consCount, x_entryCount, x_outputCount, x_itemCount, x_text, x_firsts, x_rests, x_placeNames, x_placeValues, x_placeOuters, x_procedureParts, x_procedurePlaces, x_continuationFrames, x_frameTasks, x_frameForms, x_frameValues, x_framePlaces, x_frameNexts, x_arguments, x_outputs, x_itemKinds, x_itemNumbers, x_openLists), (y_size, y_pairs, y_open, y_formCount, y_places, y_procedures, y_continuationCount, y_things, y_foundCount, y_argumentCount, y_value, y_form, y_wherein, y_next, y_working, y_ending, y_counts, y_made, y_entered, y_printCount, y_itemCount, y_text, y_firsts, y_rests, y_heads, y_lasts, y_globals, y_placeNames, y_placeValues, y_placeNexts, y_procedureForms, y_procedurePlaces, y_continuations, y_whats, y_withs, y_whereins, y_soFars, y_afters, y_found, y_foundNexts, y_arguments, y_prints, y_itemKinds, y_itemNumbers, y_pile) => x_state = 2 ∧ x_ending = -1 ∧ y_ending = -1000000003 ∧ y_working = 0 ∧ zv_V M np nc y_value x_value ∧ x_frame = y_next ∧ ((f = 0 ∧ y_next = -1) ∨ ∃ m, m < nf ∧ f = m + 1 ∧ y_next = nI m)
def sm_A (T : Nat → Nat) (n co : Nat) (g : Int64) (u : SX) (v : SY) : Prop := ∃ M G px py pl np nc nf fo cn et pc ac, sm_R T n M G px py pl np nc nf fo co cn et pc u v ∧ (fo ≤ co + 1 ∧ nf ≤ co ∧ ac ≤ 800) ∧
  match u, v with
  | (x_textLength, x_pairCount, x_placeCount, x_procedureCount, x_continuationCount, x_frameCount, x_state, x_ending, x_form, x_environment, x_frame, x_value, x_applied, x_argumentCount, x_countedCount, x_consCount, x_entryCount, x_outputCount, x_itemCount, x_text, x_firsts, x_rests, x_placeNames, x_placeValues, x_placeOuters, x_procedureParts, x_procedurePlaces, x_continuationFrames, x_frameTasks, x_frameForms, x_frameValues, x_framePlaces, x_frameNexts, x_arguments, x_outputs, x_itemKinds, x_itemNumbers, x_openLists), (y_size, y_pairs, y_open, y_formCount, y_places, y_procedures, y_continuationCount, y_things, y_foundCount, y_argumentCount, y_value, y_form, y_wherein, y_next, y_working, y_ending, y_counts, y_made, y_entered, y_printCount, y_itemCount, y_text, y_firsts, y_rests, y_heads, y_lasts, y_globals, y_placeNames, y_placeValues, y_placeNexts, y_procedureForms, y_procedurePlaces, y_continuations, y_whats, y_withs, y_whereins, y_soFars, y_afters, y_found, y_foundNexts, y_arguments, y_prints, y_itemKinds, y_itemNumbers, y_pile) => x_state = 1 ∧ x_ending = -1 ∧ y_ending = -1000000003 ∧ y_working = 0 ∧ zv_V M np nc g x_applied ∧ x_argumentCount = nI ac ∧ y_argumentCount = nI ac ∧ (∀ i, i < ac → zv_V M np nc (y_arguments i) (x_arguments i)) ∧ x_frame = y_next ∧ fm_N nf y_next
/-- ended with an error -/
def sm_E (T : Nat → Nat) (n : Nat) (u : SX) (v : SY) : Prop := ∃ e pc : Nat, tx_R T n u v ∧ 1 ≤ e ∧ e ≤ 8 ∧ pc ≤ 20 ∧
  match u, v with
  | (x_textLength, x_pairCount, x_placeCount, x_procedureCount, x_continuationCount, x_frameCount, x_state, x_ending, x_form, x_environment, x_frame, x_value, x_applied, x_argumentCount, x_countedCount, x_consCount, x_entryCount, x_outputCount, x_itemCount, x_text, x_firsts, x_rests, x_placeNames, x_placeValues, x_placeOuters, x_procedureParts, x_procedurePlaces, x_continuationFrames, x_frameTasks, x_frameForms, x_frameValues, x_framePlaces, x_frameNexts, x_arguments, x_outputs, x_itemKinds, x_itemNumbers, x_openLists), (y_size, y_pairs, y_open, y_formCount, y_places, y_procedures, y_continuationCount, y_things, y_foundCount, y_argumentCount, y_value, y_form, y_wherein, y_next, y_working, y_ending, y_counts, y_made, y_entered, y_printCount, y_itemCount, y_text, y_firsts, y_rests, y_heads, y_lasts, y_globals, y_placeNames, y_placeValues, y_placeNexts, y_procedureForms, y_procedurePlaces, y_continuations, y_whats, y_withs, y_whereins, y_soFars, y_afters, y_found, y_foundNexts, y_arguments, y_prints, y_itemKinds, y_itemNumbers, y_pile) => x_ending = nI e ∧ y_ending = nI e ∧ x_countedCount = y_counts ∧ x_consCount = y_made ∧ x_entryCount = y_entered ∧ x_outputCount = nI pc ∧ y_printCount = nI pc ∧ (∀ i, i < pc → x_outputs i = y_prints i) ∧ x_itemCount = -1000000003
section
variable {x_textLength : Int32} {x_pairCount : Int32} {x_placeCount : Int32} {x_procedureCount : Int32} {x_continuationCount : Int32} {x_frameCount : Int32} {x_state : Int32} {x_ending : Int32} {x_form : Int64} {x_environment : Int32} {x_frame : Int32} {x_value : Int64} {x_applied : Int64} {x_argumentCount : Int32} {x_countedCount : Int32} {x_consCount : Int32} {x_entryCount : Int32} {x_outputCount : Int32} {x_itemCount : Int32} {x_text : Nat → Int32} {x_firsts : Nat → Int64} {x_rests : Nat → Int64} {x_placeNames : Nat → Int32} {x_placeValues : Nat → Int64} {x_placeOuters : Nat → Int32} {x_procedureParts : Nat → Int64} {x_procedurePlaces : Nat → Int32} {x_continuationFrames : Nat → Int32} {x_frameTasks : Nat → Int32} {x_frameForms : Nat → Int64} {x_frameValues : Nat → Int64} {x_framePlaces : Nat → Int32} {x_frameNexts : Nat → Int32} {x_arguments : Nat → Int64} {x_outputs : Nat → Int32} {x_itemKinds : Nat → Int32} {x_itemNumbers : Nat → Int32} {x_openLists : Nat → Int64}
variable {y_size : Int32} {y_pairs : Int32} {y_open : Int32} {y_formCount : Int32} {y_places : Int32} {y_procedures : Int32} {y_continuationCount : Int32} {y_things : Int32} {y_foundCount : Int32} {y_argumentCount : Int32} {y_value : Int64} {y_form : Int64} {y_wherein : Int32} {y_next : Int32} {y_working : Int32} {y_ending : Int32} {y_counts : Int32} {y_made : Int32} {y_entered : Int32} {y_printCount : Int32} {y_itemCount : Int32} {y_text : Nat → Int32} {y_firsts : Nat → Int64} {y_rests : Nat → Int64} {y_heads : Nat → Int32} {y_lasts : Nat → Int32} {y_globals : Nat → Int64} {y_placeNames : Nat → Int32} {y_placeValues : Nat → Int64} {y_placeNexts : Nat → Int32} {y_procedureForms : Nat → Int64} {y_procedurePlaces : Nat → Int32} {y_continuations : Nat → Int32} {y_whats : Nat → Int32} {y_withs : Nat → Int64} {y_whereins : Nat → Int32} {y_soFars : Nat → Int32} {y_afters : Nat → Int32} {y_found : Nat → Int64} {y_foundNexts : Nat → Int32} {y_arguments : Nat → Int64} {y_prints : Nat → Int32} {y_itemKinds : Nat → Int32} {y_itemNumbers : Nat → Int32} {y_pile : Nat → Int64}
variable {T : Nat → Nat} {n px py pl np nc nf fo co cn et pc : Nat} {M : Nat → Nat → Prop} {G : Nat → Nat}
theorem sm_E_R {e : Nat} (h : sm_R T n M G px py pl np nc nf fo co cn et pc (x_textLength, x_pairCount, x_placeCount, x_procedureCount, x_continuationCount, x_frameCount, x_state, x_ending, x_form, x_environment, x_frame, x_value, x_applied, x_argumentCount, x_countedCount, x_consCount, x_entryCount, x_outputCount, x_itemCount, x_text, x_firsts, x_rests, x_placeNames, x_placeValues, x_placeOuters, x_procedureParts, x_procedurePlaces, x_continuationFrames, x_frameTasks, x_frameForms, x_frameValues, x_framePlaces, x_frameNexts, x_arguments, x_outputs, x_itemKinds, x_itemNumbers, x_openLists) (y_size, y_pairs, y_open, y_formCount, y_places, y_procedures, y_continuationCount, y_things, y_foundCount, y_argumentCount, y_value, y_form, y_wherein, y_next, y_working, y_ending, y_counts, y_made, y_entered, y_printCount, y_itemCount, y_text, y_firsts, y_rests, y_heads, y_lasts, y_globals, y_placeNames, y_placeValues, y_placeNexts, y_procedureForms, y_procedurePlaces, y_continuations, y_whats, y_withs, y_whereins, y_soFars, y_afters, y_found, y_foundNexts, y_arguments, y_prints, y_itemKinds, y_itemNumbers, y_pile)) (h1 : 1 ≤ e) (h2 : e ≤ 8) : sm_E T n (x_textLength, x_pairCount, x_placeCount, x_procedureCount, x_continuationCount, x_frameCount, x_state, nI e, x_form, x_environment, x_frame, x_value, x_applied, x_argumentCount, x_countedCount, x_consCount, x_entryCount, x_outputCount, x_itemCount, x_text, x_firsts, x_rests, x_placeNames, x_placeValues, x_placeOuters, x_procedureParts, x_procedurePlaces, x_continuationFrames, x_frameTasks, x_frameForms, x_frameValues, x_framePlaces, x_frameNexts, x_arguments, x_outputs, x_itemKinds, x_itemNumbers, x_openLists) (y_size, y_pairs, y_open, y_formCount, y_places, y_procedures, y_continuationCount, y_things, y_foundCount, y_argumentCount, y_value, y_form, y_wherein, y_next, y_working, nI e, y_counts, y_made, y_entered, y_printCount, y_itemCount, y_text, y_firsts, y_rests, y_heads, y_lasts, y_globals, y_placeNames, y_placeValues, y_placeNexts, y_procedureForms, y_procedurePlaces, y_continuations, y_whats, y_withs, y_whereins, y_soFars, y_afters, y_found, y_foundNexts, y_arguments, y_prints, y_itemKinds, y_itemNumbers, y_pile) := by
  obtain ⟨a, ⟨n1, n2, n3, n4, n5, n6, n7, n8, n9, n10, n11⟩, ⟨m1, m2, m3, m4, m5, m6, m7, m8, m9, m10, m11⟩, b, c1, c2, c3, c4, c5, c6, c7, c8⟩ := h
  exact ⟨e, pc, ⟨a.2.1, a.2.2.1, n1, m1, a.2.2.2⟩, h1, h2, by omega, rfl, rfl, n7.trans m8.symm, n8.trans m9.symm, n9.trans m10.symm, n10, m11, c8, n11⟩
theorem xs_push {post : SX → Prop} {w : Int32} {a b : Int64} (h : nf < 700) (hp : post (x_textLength, x_pairCount, x_placeCount, x_procedureCount, x_continuationCount, nI (nf + 1), x_state, x_ending, x_form, x_environment, nI nf, x_value, x_applied, x_argumentCount, x_countedCount, x_consCount, x_entryCount, x_outputCount, x_itemCount, x_text, x_firsts, x_rests, x_placeNames, x_placeValues, x_placeOuters, x_procedureParts, x_procedurePlaces, x_continuationFrames, upd x_frameTasks nf w, vp_updL x_frameForms nf a, vp_updL x_frameValues nf b, upd x_framePlaces nf x_environment, upd x_frameNexts nf x_frame, x_arguments, x_outputs, x_itemKinds, x_itemNumbers, x_openLists)) :
    wpX_pushFrame post (x_textLength, x_pairCount, x_placeCount, x_procedureCount, x_continuationCount, nI nf, x_state, x_ending, x_form, x_environment, x_frame, x_value, x_applied, x_argumentCount, x_countedCount, x_consCount, x_entryCount, x_outputCount, x_itemCount, x_text, x_firsts, x_rests, x_placeNames, x_placeValues, x_placeOuters, x_procedureParts, x_procedurePlaces, x_continuationFrames, x_frameTasks, x_frameForms, x_frameValues, x_framePlaces, x_frameNexts, x_arguments, x_outputs, x_itemKinds, x_itemNumbers, x_openLists) w a b := by
  have hi : vp_in (nI nf) 700 := vp_in_nI h (by decide)
  have e : (nI nf).toNatClampNeg = nf := nI_clamp (by omega)
  exact br_t (nI_lt (b := 700) h (by decide)) (nm_r (nI_1 nf) ⟨hi, nm_r (cl_I e) ⟨hi, nm_r (cl_L e) ⟨hi, nm_r (cl_L e) ⟨hi, nm_r (cl_I e) ⟨hi, nm_r (cl_I e) hp⟩⟩⟩⟩⟩)
theorem ys_later {post : SY → Prop} {w : Int32} {a : Int64} {c d : Int32} (h : nf < 3400) (hp : post (y_size, y_pairs, y_open, y_formCount, y_places, y_procedures, y_continuationCount, nI (nf + 1), y_foundCount, y_argumentCount, y_value, y_form, y_wherein, nI nf, y_working, y_ending, y_counts, y_made, y_entered, y_printCount, y_itemCount, y_text, y_firsts, y_rests, y_heads, y_lasts, y_globals, y_placeNames, y_placeValues, y_placeNexts, y_procedureForms, y_procedurePlaces, y_continuations, upd y_whats nf w, vp_updL y_withs nf a, upd y_whereins nf c, upd y_soFars nf d, upd y_afters nf y_next, y_found, y_foundNexts, y_arguments, y_prints, y_itemKinds, y_itemNumbers, y_pile)) :
    wpY_later post (y_size, y_pairs, y_open, y_formCount, y_places, y_procedures, y_continuationCount, nI nf, y_foundCount, y_argumentCount, y_value, y_form, y_wherein, y_next, y_working, y_ending, y_counts, y_made, y_entered, y_printCount, y_itemCount, y_text, y_firsts, y_rests, y_heads, y_lasts, y_globals, y_placeNames, y_placeValues, y_placeNexts, y_procedureForms, y_procedurePlaces, y_continuations, y_whats, y_withs, y_whereins, y_soFars, y_afters, y_found, y_foundNexts, y_arguments, y_prints, y_itemKinds, y_itemNumbers, y_pile) w a c d := by
  have hi : vp_in (nI nf) 3400 := vp_in_nI h (by decide)
  have e : (nI nf).toNatClampNeg = nf := nI_clamp (by omega)
  exact ⟨hi, nm_r (cl_I e) ⟨hi, nm_r (cl_L e) ⟨hi, nm_r (cl_I e) ⟨hi, nm_r (cl_I e) ⟨hi, nm_r (cl_I e) (nm_r (nI_1 nf) hp)⟩⟩⟩⟩⟩
theorem ys_firstOf {post : Int64 → Prop} {t a : Nat} (h : a < 900) (hp : post (y_firsts a)) : wpY_firstOf post (y_size, y_pairs, y_open, y_formCount, y_places, y_procedures, y_continuationCount, y_things, y_foundCount, y_argumentCount, y_value, y_form, y_wherein, y_next, y_working, y_ending, y_counts, y_made, y_entered, y_printCount, y_itemCount, y_text, y_firsts, y_rests, y_heads, y_lasts, y_globals, y_placeNames, y_placeValues, y_placeNexts, y_procedureForms, y_procedurePlaces, y_continuations, y_whats, y_withs, y_whereins, y_soFars, y_afters, y_found, y_foundNexts, y_arguments, y_prints, y_itemKinds, y_itemNumbers, y_pile) (zv_c t a) := by
  refine ⟨zv_in h (by decide), ?_⟩
  rw [zv_cl (by omega)]
  exact hp
theorem ys_restOf {post : Int64 → Prop} {t a : Nat} (h : a < 900) (hp : post (y_rests a)) : wpY_restOf post (y_size, y_pairs, y_open, y_formCount, y_places, y_procedures, y_continuationCount, y_things, y_foundCount, y_argumentCount, y_value, y_form, y_wherein, y_next, y_working, y_ending, y_counts, y_made, y_entered, y_printCount, y_itemCount, y_text, y_firsts, y_rests, y_heads, y_lasts, y_globals, y_placeNames, y_placeValues, y_placeNexts, y_procedureForms, y_procedurePlaces, y_continuations, y_whats, y_withs, y_whereins, y_soFars, y_afters, y_found, y_foundNexts, y_arguments, y_prints, y_itemKinds, y_itemNumbers, y_pile) (zv_c t a) := by
  refine ⟨zv_in h (by decide), ?_⟩
  rw [zv_cl (by omega)]
  exact hp
theorem ys_tag {post : Int32 → Prop} {t a : Nat} (h : t < 16) (ha : a < 4294967296) (hp : post (nI t)) : wpY_tag post (y_size, y_pairs, y_open, y_formCount, y_places, y_procedures, y_continuationCount, y_things, y_foundCount, y_argumentCount, y_value, y_form, y_wherein, y_next, y_working, y_ending, y_counts, y_made, y_entered, y_printCount, y_itemCount, y_text, y_firsts, y_rests, y_heads, y_lasts, y_globals, y_placeNames, y_placeValues, y_placeNexts, y_procedureForms, y_procedurePlaces, y_continuations, y_whats, y_withs, y_whereins, y_soFars, y_afters, y_found, y_foundNexts, y_arguments, y_prints, y_itemKinds, y_itemNumbers, y_pile) (zv_c t a) := by
  unfold wpY_tag
  rw [zv_tg h ha]
  exact hp
theorem ys_isPair_t {post : Int32 → Prop} {a : Nat} (ha : a < 4294967296) (hp : post 1) : wpY_isPair post (y_size, y_pairs, y_open, y_formCount, y_places, y_procedures, y_continuationCount, y_things, y_foundCount, y_argumentCount, y_value, y_form, y_wherein, y_next, y_working, y_ending, y_counts, y_made, y_entered, y_printCount, y_itemCount, y_text, y_firsts, y_rests, y_heads, y_lasts, y_globals, y_placeNames, y_placeValues, y_placeNexts, y_procedureForms, y_procedurePlaces, y_continuations, y_whats, y_withs, y_whereins, y_soFars, y_afters, y_found, y_foundNexts, y_arguments, y_prints, y_itemKinds, y_itemNumbers, y_pile) (zv_c 3 a) := by
  unfold wpY_isPair
  exact ys_tag (by decide) ha (br_t rfl hp)
theorem ys_isPair_f {post : Int32 → Prop} {t a : Nat} (h : t < 16) (h3 : t ≠ 3) (ha : a < 4294967296) (hp : post 0) : wpY_isPair post (y_size, y_pairs, y_open, y_formCount, y_places, y_procedures, y_continuationCount, y_things, y_foundCount, y_argumentCount, y_value, y_form, y_wherein, y_next, y_working, y_ending, y_counts, y_made, y_entered, y_printCount, y_itemCount, y_text, y_firsts, y_rests, y_heads, y_lasts, y_globals, y_placeNames, y_placeValues, y_placeNexts, y_procedureForms, y_procedurePlaces, y_continuations, y_whats, y_withs, y_whereins, y_soFars, y_afters, y_found, y_foundNexts, y_arguments, y_prints, y_itemKinds, y_itemNumbers, y_pile) (zv_c t a) := by
  unfold wpY_isPair
  exact ys_tag h ha (br_f (fun z => h3 ((nI_eq (a := t) (b := 3) (by omega) (by omega)).mp z)) hp)
/-- the forms of a list of code, in order -/
theorem sm_all {p : Nat} {w : Int32} (h : sm_R T n M G px py pl np nc nf fo co cn et pc (x_textLength, x_pairCount, x_placeCount, x_procedureCount, x_continuationCount, x_frameCount, x_state, x_ending, x_form, x_environment, x_frame, x_value, x_applied, x_argumentCount, x_countedCount, x_consCount, x_entryCount, x_outputCount, x_itemCount, x_text, x_firsts, x_rests, x_placeNames, x_placeValues, x_placeOuters, x_procedureParts, x_procedurePlaces, x_continuationFrames, x_frameTasks, x_frameForms, x_frameValues, x_framePlaces, x_frameNexts, x_arguments, x_outputs, x_itemKinds, x_itemNumbers, x_openLists) (y_size, y_pairs, y_open, y_formCount, y_places, y_procedures, y_continuationCount, y_things, y_foundCount, y_argumentCount, y_value, y_form, y_wherein, y_next, y_working, y_ending, y_counts, y_made, y_entered, y_printCount, y_itemCount, y_text, y_firsts, y_rests, y_heads, y_lasts, y_globals, y_placeNames, y_placeValues, y_placeNexts, y_procedureForms, y_procedurePlaces, y_continuations, y_whats, y_withs, y_whereins, y_soFars, y_afters, y_found, y_foundNexts, y_arguments, y_prints, y_itemKinds, y_itemNumbers, y_pile)) (hx : x_ending = -1) (hy : y_ending = -1000000003) (hb : fo ≤ co + 1 ∧ nf ≤ co) (he : en_R pl w x_environment) (hf : x_frame = y_next) (hf2 : fm_N nf y_next)
    (hl : ls_P T n p) (hp : p < n) (h1 : T p ≠ 1) :
    ∃ u' v', (∀ post : SX → Prop, post u' → wpX_workOutAll post (x_textLength, x_pairCount, x_placeCount, x_procedureCount, x_continuationCount, x_frameCount, x_state, x_ending, x_form, x_environment, x_frame, x_value, x_applied, x_argumentCount, x_countedCount, x_consCount, x_entryCount, x_outputCount, x_itemCount, x_text, x_firsts, x_rests, x_placeNames, x_placeValues, x_placeOuters, x_procedureParts, x_procedurePlaces, x_continuationFrames, x_frameTasks, x_frameForms, x_frameValues, x_framePlaces, x_frameNexts, x_arguments, x_outputs, x_itemKinds, x_itemNumbers, x_openLists) (cd_xl T n p)) ∧ (∀ post : SY → Prop, post v' → wpY_inOrder post (y_size, y_pairs, y_open, y_formCount, y_places, y_procedures, y_continuationCount, y_things, y_foundCount, y_argumentCount, y_value, y_form, y_wherein, y_next, y_working, y_ending, y_counts, y_made, y_entered, y_printCount, y_itemCount, y_text, y_firsts, y_rests, y_heads, y_lasts, y_globals, y_placeNames, y_placeValues, y_placeNexts, y_procedureForms, y_procedurePlaces, y_continuations, y_whats, y_withs, y_whereins, y_soFars, y_afters, y_found, y_foundNexts, y_arguments, y_prints, y_itemKinds, y_itemNumbers, y_pile) (cd_yl T n p) w) ∧ sm_F T n co u' v' := by
  have h' := h
  obtain ⟨a, ⟨n1, n2, n3, n4, n5, n6, n7, n8, n9, n10, n11⟩, ⟨m1, m2, m3, m4, m5, m6, m7, m8, m9, m10, m11⟩, b, c1, c2, c3, c4, c5, c6, c7, c8⟩ := h
  have hR := a.1
  obtain ⟨e1, e2, e3, e4, e5, e6⟩ := cd_cell c1 c2.1.2.2.2.2.2 hp h1 hl.2.2 (pz_CL_nD0 hl.2.1)
  have hin : vp_in (zv_c 2 (pz_AX T n 0 p)).toInt32 1400 := zv_in (by omega) (by decide)
  have hcl : (zv_c 2 (pz_AX T n 0 p)).toInt32.toNatClampNeg = pz_AX T n 0 p := zv_cl (by omega)
  have hls := ls_nx hR hl hp h1
  rw [cd_xl_p hp h1, cd_yl_p hp h1]
  subst n6 m6
  by_cases c : pz_nx T n p < n ∧ T (pz_nx T n p) ≠ 1
  · have hk := rk_push (w := 0) (ey := w) (ex := x_environment) (sy := 0) (sx := zv_c 3 0) (f := y_next) h' he hf2 (Or.inl ⟨0, pz_nx T n p, by decide, rfl, hls, c.1, c.2, rfl, rfl⟩)
    refine ⟨(x_textLength, x_pairCount, x_placeCount, x_procedureCount, x_continuationCount, nI (nf + 1), 0, x_ending, cd_xv T n p, x_environment, nI nf, x_value, x_applied, x_argumentCount, x_countedCount, x_consCount, x_entryCount, x_outputCount, x_itemCount, x_text, x_firsts, x_rests, x_placeNames, x_placeValues, x_placeOuters, x_procedureParts, x_procedurePlaces, x_continuationFrames, upd x_frameTasks nf 0, vp_updL x_frameForms nf (cd_xl T n (pz_nx T n p)), vp_updL x_frameValues nf (zv_c 3 0), upd x_framePlaces nf x_environment, upd x_frameNexts nf y_next, x_arguments, x_outputs, x_itemKinds, x_itemNumbers, x_openLists), (y_size, y_pairs, y_open, y_formCount, y_places, y_procedures, y_continuationCount, nI (nf + 1), y_foundCount, y_argumentCount, y_value, cd_yv T n p, w, nI nf, 1, y_ending, y_counts, y_made, y_entered, y_printCount, y_itemCount, y_text, y_firsts, y_rests, y_heads, y_lasts, y_globals, y_placeNames, y_placeValues, y_placeNexts, y_procedureForms, y_procedurePlaces, y_continuations, upd y_whats nf 0, vp_updL y_withs nf (cd_yl T n (pz_nx T n p)), upd y_whereins nf w, upd y_soFars nf 0, upd y_afters nf y_next, y_found, y_foundNexts, y_arguments, y_prints, y_itemKinds, y_itemNumbers, y_pile), fun post hpost => ?_, fun post hpost => ?_, ⟨M, G, px, py, pl, np, nc, nf + 1, fo, cn, et, pc, p, hk, by omega, ?_⟩⟩
    · refine ⟨hin, nm_r ((cl_R hcl).trans e6) (br_f ?_ ?_)⟩
      · rw [cd_xl_p c.1 c.2, zk_xE]
        have := (c2.1.2.2.2.2.2 0 _ ⟨c.1, Or.inl ⟨rfl, c.2, hls.2.2⟩⟩).2
        exact fun z => by have := (zv_eq (by decide) (by omega) (by decide) (by decide)).mp z; omega
      · rw [zk_xE]
        refine xs_push (by omega) ⟨hin, nm_r ((cl_R hcl).trans e5) ?_⟩
        rw [hf]
        exact hpost
    · unfold wpY_inOrder
      refine ys_restOf (by omega) ?_
      rw [e4, cd_yl_p c.1 c.2]
      have := (c2.1.2.2.2.2.2 0 _ ⟨c.1, Or.inl ⟨rfl, c.2, hls.2.2⟩⟩).1
      refine ys_isPair_t (by omega) (br_f (by decide) (ys_restOf (by omega) ?_))
      rw [e4]
      refine ys_later (by omega) (ys_firstOf (by omega) ?_)
      rw [e3]
      exact hpost
    · exact ⟨rfl, hx, hy, rfl, ⟨hp, h1, ls_CF hl⟩, rfl, rfl, he, rfl, Or.inr ⟨nf, by omega, rfl⟩⟩
  · refine ⟨(x_textLength, x_pairCount, x_placeCount, x_procedureCount, x_continuationCount, nI nf, 0, x_ending, cd_xv T n p, x_environment, x_frame, x_value, x_applied, x_argumentCount, x_countedCount, x_consCount, x_entryCount, x_outputCount, x_itemCount, x_text, x_firsts, x_rests, x_placeNames, x_placeValues, x_placeOuters, x_procedureParts, x_procedurePlaces, x_continuationFrames, x_frameTasks, x_frameForms, x_frameValues, x_framePlaces, x_frameNexts, x_arguments, x_outputs, x_itemKinds, x_itemNumbers, x_openLists), (y_size, y_pairs, y_open, y_formCount, y_places, y_procedures, y_continuationCount, nI nf, y_foundCount, y_argumentCount, y_value, cd_yv T n p, w, y_next, 1, y_ending, y_counts, y_made, y_entered, y_printCount, y_itemCount, y_text, y_firsts, y_rests, y_heads, y_lasts, y_globals, y_placeNames, y_placeValues, y_placeNexts, y_procedureForms, y_procedurePlaces, y_continuations, y_whats, y_withs, y_whereins, y_soFars, y_afters, y_found, y_foundNexts, y_arguments, y_prints, y_itemKinds, y_itemNumbers, y_pile), fun post hpost => ?_, fun post hpost => ?_, ⟨M, G, px, py, pl, np, nc, nf, fo, cn, et, pc, p, h', by omega, ?_⟩⟩
    · exact ⟨hin, nm_r ((cl_R hcl).trans e6) (br_t (by rw [cd_xl_e c, zk_xE]) ⟨hin, nm_r ((cl_R hcl).trans e5) hpost⟩)⟩
    · unfold wpY_inOrder
      refine ys_restOf (by omega) ?_
      rw [e4, cd_yl_e c]
      refine ys_isPair_f (by decide) (by decide) (by decide) (br_t rfl (ys_firstOf (by omega) ?_))
      rw [e3]
      exact hpost
    · exact ⟨rfl, hx, hy, rfl, ⟨hp, h1, ls_CF hl⟩, rfl, rfl, he, hf, hf2⟩
end
end
section
/-! lengths of lists, innermost places, on both sides -/
section
variable {x_textLength : Int32} {x_pairCount : Int32} {x_placeCount : Int32} {x_procedureCount : Int32} {x_continuationCount : Int32} {x_frameCount : Int32} {x_state : Int32} {x_ending : Int32} {x_form : Int64} {x_environment : Int32} {x_frame : Int32} {x_value : Int64} {x_applied : Int64} {x_argumentCount : Int32} {x_countedCount : Int32} {x_consCount : Int32} {x_entryCount : Int32} {x_outputCount : Int32} {x_itemCount : Int32} {x_text : Nat → Int32} {x_firsts : Nat → Int64} {x_rests : Nat → Int64} {x_placeNames : Nat → Int32} {x_placeValues : Nat → Int64} {x_placeOuters : Nat → Int32} {x_procedureParts : Nat → Int64} {x_procedurePlaces : Nat → Int32} {x_continuationFrames : Nat → Int32} {x_frameTasks : Nat → Int32} {x_frameForms : Nat → Int64} {x_frameValues : Nat → Int64} {x_framePlaces : Nat → Int32} {x_frameNexts : Nat → Int32} {x_arguments : Nat → Int64} {x_outputs : Nat → Int32} {x_itemKinds : Nat → Int32} {x_itemNumbers : Nat → Int32} {x_openLists : Nat → Int64}
variable {y_size : Int32} {y_pairs : Int32} {y_open : Int32} {y_formCount : Int32} {y_places : Int32} {y_procedures : Int32} {y_continuationCount : Int32} {y_things : Int32} {y_foundCount : Int32} {y_argumentCount : Int32} {y_value : Int64} {y_form : Int64} {y_wherein : Int32} {y_next : Int32} {y_working : Int32} {y_ending : Int32} {y_counts : Int32} {y_made : Int32} {y_entered : Int32} {y_printCount : Int32} {y_itemCount : Int32} {y_text : Nat → Int32} {y_firsts : Nat → Int64} {y_rests : Nat → Int64} {y_heads : Nat → Int32} {y_lasts : Nat → Int32} {y_globals : Nat → Int64} {y_placeNames : Nat → Int32} {y_placeValues : Nat → Int64} {y_placeNexts : Nat → Int32} {y_procedureForms : Nat → Int64} {y_procedurePlaces : Nat → Int32} {y_continuations : Nat → Int32} {y_whats : Nat → Int32} {y_withs : Nat → Int64} {y_whereins : Nat → Int32} {y_soFars : Nat → Int32} {y_afters : Nat → Int32} {y_found : Nat → Int64} {y_foundNexts : Nat → Int32} {y_arguments : Nat → Int64} {y_prints : Nat → Int32} {y_itemKinds : Nat → Int32} {y_itemNumbers : Nat → Int32} {y_pile : Nat → Int64}
variable {T : Nat → Nat} {n px py pl np nc : Nat} {M : Nat → Nat → Prop}
theorem ch_inj {t : Nat} (ht : t < 16) {B : Nat} (hB : B ≤ 4294967296) : ∀ c d, c < B → d < B → zv_c t c = zv_c t d → c = d := fun c d h1 h2 h => ((zv_eq ht (by omega) ht (by omega)).mp h).2
theorem ch_X0 {B : Nat} (hB : B ≤ 4294967296) : ∀ c, c < B → zv_c 2 c ≠ zv_c 3 0 := fun c h z => by have := (zv_eq (by decide) (by omega) (by decide) (by decide)).mp z; omega
theorem ch_Y0 {B : Nat} (hB : B ≤ 4294967296) : ∀ c, c < B → zv_c 3 c ≠ zv_c 2 0 := fun c h z => by have := (zv_eq (by decide) (by omega) (by decide) (by decide)).mp z; omega
theorem xs_len_l {post : Int32 → Prop} {S : Int64 → Prop} (hpx : px ≤ 1400) (hS : ∀ v, S v → ∃ s l, s < 16 ∧ l < 4294967296 ∧ v = zv_c s l ∧ (s = 2 → l < px ∧ S (x_rests l)) ∧ (s = 3 → l = 0)) :
    ∀ d i v, i + d = px + 1 → S v → (∀ k, ch_N x_rests (zv_c 2) (zv_c 3 0) px k v → post (nI (i + k))) → ((∀ k, k < d → ¬ ch_N x_rests (zv_c 2) (zv_c 3 0) px k v) → post (-1000000003)) →
      wX_lengthOf_5 post x_textLength (nI px) x_placeCount x_procedureCount x_continuationCount x_frameCount x_state x_ending x_form x_environment x_frame x_value x_applied x_argumentCount x_countedCount x_consCount x_entryCount x_outputCount x_itemCount x_text x_firsts x_rests x_placeNames x_placeValues x_placeOuters x_procedureParts x_procedurePlaces x_continuationFrames x_frameTasks x_frameForms x_frameValues x_framePlaces x_frameNexts x_arguments x_outputs x_itemKinds x_itemNumbers x_openLists (d + 1) v (nI i) := by
  intro d
  induction d with
  | zero =>
    intro i v hi hv h1 h2
    exact br_t (nI_lt (by omega) (by omega)) (h2 (fun k hk => by omega))
  | succ d ih =>
    intro i v hi hv h1 h2
    obtain ⟨s, l, hs, hl, rfl, g1, g2⟩ := hS v hv
    refine br_f (nI_nlt (by omega) (by omega)) ?_
    by_cases c3 : s = 3
    · subst c3
      have := g2 rfl
      subst this
      exact br_t (by rw [zk_xE]) (h1 0 rfl)
    · refine br_f (fun z => c3 (by rw [zk_xE] at z; exact ((zv_eq hs hl (by decide) (by decide)).mp z).1)) ?_
      rw [zv_sh hs hl]
      by_cases c2 : s = 2
      · subst c2
        obtain ⟨g3, g4⟩ := g1 rfl
        refine br_t rfl ⟨zv_in (by omega) (by decide), nm_r (cl_R (zv_cl (by omega))) (nm_r (nI_1 i) (ih (i + 1) _ (by omega) g4 (fun k hk => ?_) (fun hk => h2 (fun k hk1 hk2 => ?_))))⟩
        · have := h1 (k + 1) ⟨l, g3, rfl, hk⟩
          rw [show i + 1 + k = i + (k + 1) by omega]
          exact this
        · cases k with
          | zero => exact absurd hk2 (ch_X0 (B := px) (by omega) l g3)
          | succ k =>
            obtain ⟨c, q1, q2, q3⟩ := hk2
            have := ch_inj (by decide) (by omega) _ _ g3 q1 q2
            subst this
            exact hk k (by omega) q3
      · refine br_f (fun z => c2 ((pk_lEQ (a := s) (b := 2) (by omega) (by omega)).mp z)) (h2 (fun k hk1 hk2 => ?_))
        cases k with
        | zero => exact c3 ((zv_eq hs hl (by decide) (by decide)).mp hk2).1
        | succ k =>
          obtain ⟨c, q1, q2, q3⟩ := hk2
          exact c2 ((zv_eq hs hl (by decide) (by omega)).mp q2).1
theorem xs_len {post : Int32 → Prop} {S : Int64 → Prop} {v : Int64} (hpx : px ≤ 1400) (hS : ∀ v, S v → ∃ s l, s < 16 ∧ l < 4294967296 ∧ v = zv_c s l ∧ (s = 2 → l < px ∧ S (x_rests l)) ∧ (s = 3 → l = 0)) (hv : S v)
    (h1 : ∀ k, ch_N x_rests (zv_c 2) (zv_c 3 0) px k v → post (nI k)) (h2 : (∀ k, ¬ ch_N x_rests (zv_c 2) (zv_c 3 0) px k v) → post (-1000000003)) : wpX_lengthOf post (x_textLength, nI px, x_placeCount, x_procedureCount, x_continuationCount, x_frameCount, x_state, x_ending, x_form, x_environment, x_frame, x_value, x_applied, x_argumentCount, x_countedCount, x_consCount, x_entryCount, x_outputCount, x_itemCount, x_text, x_firsts, x_rests, x_placeNames, x_placeValues, x_placeOuters, x_procedureParts, x_procedurePlaces, x_continuationFrames, x_frameTasks, x_frameForms, x_frameValues, x_framePlaces, x_frameNexts, x_arguments, x_outputs, x_itemKinds, x_itemNumbers, x_openLists) v := by
  refine ⟨px + 2, xs_len_l hpx hS (px + 1) 0 v (by omega) hv (fun k hk => by rw [Nat.zero_add]; exact h1 k hk) (fun hk => h2 (fun k hk2 => hk k ?_ hk2))⟩
  have := ch_len (ch_X0 (by omega)) (ch_inj (by decide) (by omega)) hk2
  omega
theorem xs_len_ch {post : Int32 → Prop} {v : Int64} {k : Nat} (hpx : px ≤ 1400) (hv : ch_N x_rests (zv_c 2) (zv_c 3 0) px k v) (h : post (nI k)) : wpX_lengthOf post (x_textLength, nI px, x_placeCount, x_procedureCount, x_continuationCount, x_frameCount, x_state, x_ending, x_form, x_environment, x_frame, x_value, x_applied, x_argumentCount, x_countedCount, x_consCount, x_entryCount, x_outputCount, x_itemCount, x_text, x_firsts, x_rests, x_placeNames, x_placeValues, x_placeOuters, x_procedureParts, x_procedurePlaces, x_continuationFrames, x_frameTasks, x_frameForms, x_frameValues, x_framePlaces, x_frameNexts, x_arguments, x_outputs, x_itemKinds, x_itemNumbers, x_openLists) v := by
  refine xs_len (S := fun w => ∃ k, ch_N x_rests (zv_c 2) (zv_c 3 0) px k w) hpx (fun w ⟨k, hk⟩ => ?_) ⟨k, hv⟩ (fun k' hk' => ?_) (fun z => absurd hv (z k))
  · cases k with
    | zero => exact ⟨3, 0, by decide, by decide, hk, fun z => by omega, fun _ => rfl⟩
    | succ k =>
      obtain ⟨c, q1, q2, q3⟩ := hk
      exact ⟨2, c, by decide, by omega, q2, fun _ => ⟨q1, k, q3⟩, fun z => by omega⟩
  · rw [ch_uniq (ch_X0 (by omega)) (ch_inj (by decide) (by omega)) _ _ _ hk' hv]
    exact h
theorem ys_len_l {post : Int32 → Prop} {S : Int64 → Prop} (hpy : py ≤ 900) (hS : ∀ v, S v → ∃ s l, s < 16 ∧ l < 4294967296 ∧ v = zv_c s l ∧ (s = 3 → l < py ∧ S (y_rests l)) ∧ (s = 2 → l = 0)) :
    ∀ d i v, i + d = 900 → S v → (∀ k, ch_N y_rests (zv_c 3) (zv_c 2 0) py k v → post (nI (i + k))) → ((∀ k, k ≤ d → ¬ ch_N y_rests (zv_c 3) (zv_c 2 0) py k v) → post (-1)) →
      wY_lengthOf_5 post y_size y_pairs y_open y_formCount y_places y_procedures y_continuationCount y_things y_foundCount y_argumentCount y_value y_form y_wherein y_next y_working y_ending y_counts y_made y_entered y_printCount y_itemCount y_text y_firsts y_rests y_heads y_lasts y_globals y_placeNames y_placeValues y_placeNexts y_procedureForms y_procedurePlaces y_continuations y_whats y_withs y_whereins y_soFars y_afters y_found y_foundNexts y_arguments y_prints y_itemKinds y_itemNumbers y_pile (d + 1) (nI i) v := by
  intro d
  induction d with
  | zero =>
    intro i v hi hv h1 h2
    obtain ⟨s, l, hs, hl, rfl, g1, g2⟩ := hS v hv
    have he : wY_lengthOf_35 post (nI i) (zv_c s l) y_size y_pairs y_open y_formCount y_places y_procedures y_continuationCount y_things y_foundCount y_argumentCount y_value y_form y_wherein y_next y_working y_ending y_counts y_made y_entered y_printCount y_itemCount y_text y_firsts y_rests y_heads y_lasts y_globals y_placeNames y_placeValues y_placeNexts y_procedureForms y_procedurePlaces y_continuations y_whats y_withs y_whereins y_soFars y_afters y_found y_foundNexts y_arguments y_prints y_itemKinds y_itemNumbers y_pile := by
      unfold wY_lengthOf_35
      refine ys_tag hs hl ?_
      by_cases c2 : s = 2
      · subst c2
        have := g2 rfl
        subst this
        exact br_t rfl (h1 0 rfl)
      · refine br_f (fun z => c2 ((nI_eq (a := s) (b := 2) (by omega) (by omega)).mp z)) (h2 (fun k hk hk2 => ?_))
        have : k = 0 := by omega
        subst this
        exact c2 ((zv_eq hs hl (by decide) (by decide)).mp hk2).1
    rw [wY_lengthOf_5]
    by_cases c3 : s = 3
    · subst c3
      exact ys_isPair_t hl (br_f (by decide) (br_t (nI_le (a := 900) (by omega) (by omega)) he))
    · exact ys_isPair_f hs c3 hl (br_t rfl he)
  | succ d ih =>
    intro i v hi hv h1 h2
    obtain ⟨s, l, hs, hl, rfl, g1, g2⟩ := hS v hv
    rw [wY_lengthOf_5]
    by_cases c3 : s = 3
    · subst c3
      obtain ⟨g3, g4⟩ := g1 rfl
      refine ys_isPair_t hl (br_f (by decide) (br_f (nI_ge (b := 900) (by omega) (by decide)) (nm_r (nI_1 i) (ys_restOf (by omega) (ih (i + 1) _ (by omega) g4 (fun k hk => ?_) (fun hk => h2 (fun k hk1 hk2 => ?_)))))))
      · have := h1 (k + 1) ⟨l, g3, rfl, hk⟩
        rw [show i + 1 + k = i + (k + 1) by omega]
        exact this
      · cases k with
        | zero => exact absurd hk2 (ch_Y0 (B := py) (by omega) l g3)
        | succ k =>
          obtain ⟨c, q1, q2, q3⟩ := hk2
          have := ch_inj (by decide) (by omega) _ _ g3 q1 q2
          subst this
          exact hk k (by omega) q3
    · refine ys_isPair_f hs c3 hl (br_t rfl ?_)
      unfold wY_lengthOf_35
      refine ys_tag hs hl ?_
      by_cases c2 : s = 2
      · subst c2
        have := g2 rfl
        subst this
        exact br_t rfl (h1 0 rfl)
      · refine br_f (fun z => c2 ((nI_eq (a := s) (b := 2) (by omega) (by omega)).mp z)) (h2 (fun k hk hk2 => ?_))
        cases k with
        | zero => exact c2 ((zv_eq hs hl (by decide) (by decide)).mp hk2).1
        | succ k =>
          obtain ⟨c, q1, q2, q3⟩ := hk2
          exact c3 ((zv_eq hs hl (by decide) (by omega)).mp q2).1
theorem ys_len {post : Int32 → Prop} {S : Int64 → Prop} {v : Int64} (hpy : py ≤ 900) (hS : ∀ v, S v → ∃ s l, s < 16 ∧ l < 4294967296 ∧ v = zv_c s l ∧ (s = 3 → l < py ∧ S (y_rests l)) ∧ (s = 2 → l = 0)) (hv : S v)
    (h1 : ∀ k, ch_N y_rests (zv_c 3) (zv_c 2 0) py k v → post (nI k)) (h2 : (∀ k, ¬ ch_N y_rests (zv_c 3) (zv_c 2 0) py k v) → post (-1)) : wpY_lengthOf post (y_size, y_pairs, y_open, y_formCount, y_places, y_procedures, y_continuationCount, y_things, y_foundCount, y_argumentCount, y_value, y_form, y_wherein, y_next, y_working, y_ending, y_counts, y_made, y_entered, y_printCount, y_itemCount, y_text, y_firsts, y_rests, y_heads, y_lasts, y_globals, y_placeNames, y_placeValues, y_placeNexts, y_procedureForms, y_procedurePlaces, y_continuations, y_whats, y_withs, y_whereins, y_soFars, y_afters, y_found, y_foundNexts, y_arguments, y_prints, y_itemKinds, y_itemNumbers, y_pile) v := by
  refine ⟨901, ys_len_l hpy hS 900 0 v (by omega) hv (fun k hk => by rw [Nat.zero_add]; exact h1 k hk) (fun hk => h2 (fun k hk2 => hk k ?_ hk2))⟩
  have := ch_len (ch_Y0 (by omega)) (ch_inj (by decide) (by omega)) hk2
  omega
theorem ys_len_ch {post : Int32 → Prop} {v : Int64} {k : Nat} (hpy : py ≤ 900) (hv : ch_N y_rests (zv_c 3) (zv_c 2 0) py k v) (h : post (nI k)) : wpY_lengthOf post (y_size, y_pairs, y_open, y_formCount, y_places, y_procedures, y_continuationCount, y_things, y_foundCount, y_argumentCount, y_value, y_form, y_wherein, y_next, y_working, y_ending, y_counts, y_made, y_entered, y_printCount, y_itemCount, y_text, y_firsts, y_rests, y_heads, y_lasts, y_globals, y_placeNames, y_placeValues, y_placeNexts, y_procedureForms, y_procedurePlaces, y_continuations, y_whats, y_withs, y_whereins, y_soFars, y_afters, y_found, y_foundNexts, y_arguments, y_prints, y_itemKinds, y_itemNumbers, y_pile) v := by
  refine ys_len (S := fun w => ∃ k, ch_N y_rests (zv_c 3) (zv_c 2 0) py k w) hpy (fun w ⟨k, hk⟩ => ?_) ⟨k, hv⟩ (fun k' hk' => ?_) (fun z => absurd hv (z k))
  · cases k with
    | zero => exact ⟨2, 0, by decide, by decide, hk, fun z => by omega, fun _ => rfl⟩
    | succ k =>
      obtain ⟨c, q1, q2, q3⟩ := hk
      exact ⟨3, c, by decide, by omega, q2, fun _ => ⟨q1, k, q3⟩, fun z => by omega⟩
  · rw [ch_uniq (ch_Y0 (by omega)) (ch_inj (by decide) (by omega)) _ _ _ hk' hv]
    exact h
/-- lists of data end on both sides, with one length -/
theorem ch_iff {FY RY FX RX : Nat → Int64} (hpy : py ≤ 4294967296) (hpx : px ≤ 4294967296) (hp : hp_OK T n M np nc py px FY RY FX RX) : ∀ k y x, zv_V M np nc y x → (ch_N RY (zv_c 3) (zv_c 2 0) py k y ↔ ch_N RX (zv_c 2) (zv_c 3 0) px k x) := by
  intro k
  induction k with
  | zero =>
    intro y x hV
    obtain ⟨t, a, s, l, ha, hl, rfl, rfl, hK⟩ := hV
    have b := zv_K_b hK
    have c := zv_K_p hK
    show zv_c t a = zv_c 2 0 ↔ zv_c s l = zv_c 3 0
    rw [zv_eq (by omega) ha (by decide) (by decide), zv_eq (by omega) hl (by decide) (by decide)]
    omega
  | succ k ih =>
    intro y x hV
    obtain ⟨t, a, s, l, ha, hl, rfl, rfl, hK⟩ := hV
    have b := zv_K_b hK
    have c := zv_K_p hK
    constructor
    · intro ⟨d, q1, q2, q3⟩
      obtain ⟨e1, e2⟩ := (zv_eq (by omega) ha (by decide) (by omega)).mp q2
      subst e2
      have m := c.2.1 e1
      have g := hp.1 _ _ m
      exact ⟨l, g.2, by rw [c.1.mp e1], (ih _ _ (hp.2.2.2.1 _ _ m).2).mp q3⟩
    · intro ⟨d, q1, q2, q3⟩
      obtain ⟨e1, e2⟩ := (zv_eq (by omega) hl (by decide) (by omega)).mp q2
      subst e2
      have e3 := c.1.mpr e1
      have m := c.2.1 e3
      have g := hp.1 _ _ m
      exact ⟨a, g.1, by rw [e3], (ih _ _ (hp.2.2.2.1 _ _ m).2).mpr q3⟩
/-- the innermost place of a name -/
theorem lk_at {k : Nat} {nf fo co cn et pc : Nat} {G : Nat → Nat} (hr : sm_R T n M G px py pl np nc nf fo co cn et pc (x_textLength, x_pairCount, x_placeCount, x_procedureCount, x_continuationCount, x_frameCount, x_state, x_ending, x_form, x_environment, x_frame, x_value, x_applied, x_argumentCount, x_countedCount, x_consCount, x_entryCount, x_outputCount, x_itemCount, x_text, x_firsts, x_rests, x_placeNames, x_placeValues, x_placeOuters, x_procedureParts, x_procedurePlaces, x_continuationFrames, x_frameTasks, x_frameForms, x_frameValues, x_framePlaces, x_frameNexts, x_arguments, x_outputs, x_itemKinds, x_itemNumbers, x_openLists) (y_size, y_pairs, y_open, y_formCount, y_places, y_procedures, y_continuationCount, y_things, y_foundCount, y_argumentCount, y_value, y_form, y_wherein, y_next, y_working, y_ending, y_counts, y_made, y_entered, y_printCount, y_itemCount, y_text, y_firsts, y_rests, y_heads, y_lasts, y_globals, y_placeNames, y_placeValues, y_placeNexts, y_procedureForms, y_procedurePlaces, y_continuations, y_whats, y_withs, y_whereins, y_soFars, y_afters, y_found, y_foundNexts, y_arguments, y_prints, y_itemKinds, y_itemNumbers, y_pile)) (h1 : 30 ≤ k) (h2 : k ≤ 39) (hpl : pl ≤ 2400) :
    ∀ b wy wx, en_R b wy wx → b ≤ pl →
      (∃ e, e < pl ∧ (∀ (post : Int32 → Prop) i f, i + b ≤ 2499 → b < f → post (nI (e + 10)) → wX_innermostPlace_7 post (nI k) x_textLength x_pairCount x_placeCount x_procedureCount x_continuationCount x_frameCount x_state x_ending x_form x_environment x_frame x_value x_applied x_argumentCount x_countedCount x_consCount x_entryCount x_outputCount x_itemCount x_text x_firsts x_rests x_placeNames x_placeValues x_placeOuters x_procedureParts x_procedurePlaces x_continuationFrames x_frameTasks x_frameForms x_frameValues x_framePlaces x_frameNexts x_arguments x_outputs x_itemKinds x_itemNumbers x_openLists f wx (nI i)) ∧ (∀ (post : Int32 → Prop) f, b < f → post (nI e) → wY_findPlace_2 post (nI k) y_size y_pairs y_open y_formCount y_places y_procedures y_continuationCount y_things y_foundCount y_argumentCount y_value y_form y_wherein y_next y_working y_ending y_counts y_made y_entered y_printCount y_itemCount y_text y_firsts y_rests y_heads y_lasts y_globals y_placeNames y_placeValues y_placeNexts y_procedureForms y_procedurePlaces y_continuations y_whats y_withs y_whereins y_soFars y_afters y_found y_foundNexts y_arguments y_prints y_itemKinds y_itemNumbers y_pile f wy)) ∨
      ((∀ (post : Int32 → Prop) i f, i + b ≤ 2499 → b < f → post (nI (k - 30)) → wX_innermostPlace_7 post (nI k) x_textLength x_pairCount x_placeCount x_procedureCount x_continuationCount x_frameCount x_state x_ending x_form x_environment x_frame x_value x_applied x_argumentCount x_countedCount x_consCount x_entryCount x_outputCount x_itemCount x_text x_firsts x_rests x_placeNames x_placeValues x_placeOuters x_procedureParts x_procedurePlaces x_continuationFrames x_frameTasks x_frameForms x_frameValues x_framePlaces x_frameNexts x_arguments x_outputs x_itemKinds x_itemNumbers x_openLists f wx (nI i)) ∧ (∀ (post : Int32 → Prop) f, b < f → post (-1) → wY_findPlace_2 post (nI k) y_size y_pairs y_open y_formCount y_places y_procedures y_continuationCount y_things y_foundCount y_argumentCount y_value y_form y_wherein y_next y_working y_ending y_counts y_made y_entered y_printCount y_itemCount y_text y_firsts y_rests y_heads y_lasts y_globals y_placeNames y_placeValues y_placeNexts y_procedureForms y_procedurePlaces y_continuations y_whats y_withs y_whereins y_soFars y_afters y_found y_foundNexts y_arguments y_prints y_itemKinds y_itemNumbers y_pile f wy)) := by
  have h : pl_OK M np nc pl y_globals y_placeNames y_placeValues y_placeNexts x_placeNames x_placeValues x_placeOuters := hr.2.2.2.2.2.2.2.2.1
  have base : ∀ b, ((∀ (post : Int32 → Prop) i f, i + b ≤ 2499 → b < f → post (nI (k - 30)) → wX_innermostPlace_7 post (nI k) x_textLength x_pairCount x_placeCount x_procedureCount x_continuationCount x_frameCount x_state x_ending x_form x_environment x_frame x_value x_applied x_argumentCount x_countedCount x_consCount x_entryCount x_outputCount x_itemCount x_text x_firsts x_rests x_placeNames x_placeValues x_placeOuters x_procedureParts x_procedurePlaces x_continuationFrames x_frameTasks x_frameForms x_frameValues x_framePlaces x_frameNexts x_arguments x_outputs x_itemKinds x_itemNumbers x_openLists f 0 (nI i)) ∧ (∀ (post : Int32 → Prop) f, b < f → post (-1) → wY_findPlace_2 post (nI k) y_size y_pairs y_open y_formCount y_places y_procedures y_continuationCount y_things y_foundCount y_argumentCount y_value y_form y_wherein y_next y_working y_ending y_counts y_made y_entered y_printCount y_itemCount y_text y_firsts y_rests y_heads y_lasts y_globals y_placeNames y_placeValues y_placeNexts y_procedureForms y_procedurePlaces y_continuations y_whats y_withs y_whereins y_soFars y_afters y_found y_foundNexts y_arguments y_prints y_itemKinds y_itemNumbers y_pile f (-1))) := by
    intro b
    refine ⟨fun post i f hi hf hp => ?_, fun post f hf hp => ?_⟩
    · obtain ⟨f, rfl⟩ : ∃ g, f = g + 1 := ⟨f - 1, by omega⟩
      refine br_f (nI_ge (b := 2500) (by omega) (by decide)) (br_t (by decide) ?_)
      have e : nI k - 30 = nI (k - 30) := pk_sub (a := k) (b := 30) h1
      rw [e]
      exact hp
    · obtain ⟨f, rfl⟩ : ∃ g, f = g + 1 := ⟨f - 1, by omega⟩
      exact br_t (by decide) hp
  intro b
  induction b with
  | zero =>
    intro wy wx he hb
    rcases he with ⟨rfl, rfl⟩ | ⟨e, z, _⟩
    · exact Or.inr (base 0)
    · omega
  | succ b ih =>
    intro wy wx he hb
    rcases he with ⟨rfl, rfl⟩ | ⟨e, z, rfl, rfl⟩
    · exact Or.inr (base _)
    · by_cases ce : e < b
      · rcases ih (nI e) (nI (e + 10)) (Or.inr ⟨e, ce, rfl, rfl⟩) (by omega) with ⟨r, r1, r2, r3⟩ | ⟨r2, r3⟩
        · exact Or.inl ⟨r, r1, fun post i f hi hf hp => r2 post i f (by omega) (by omega) hp, fun post f hf hp => r3 post f (by omega) hp⟩
        · exact Or.inr ⟨fun post i f hi hf hp => r2 post i f (by omega) (by omega) hp, fun post f hf hp => r3 post f (by omega) hp⟩
      · have : e = b := by omega
        subst this
        obtain ⟨⟨k', q1, q2, q3⟩, q4, q5, q6⟩ := h.2 e (by omega)
        have ex : (nI (e + 10)).toNatClampNeg = e + 10 := nI_clamp (by omega)
        have ey : (nI e).toNatClampNeg = e := nI_clamp (by omega)
        by_cases ck : k' = k
        · subst ck
          refine Or.inl ⟨e, by omega, fun post i f hi hf hp => ?_, fun post f hf hp => ?_⟩
          · obtain ⟨f, rfl⟩ : ∃ g, f = g + 1 := ⟨f - 1, by omega⟩
            exact br_f (nI_ge (b := 2500) (by omega) (by decide)) (br_f (nI_nlt (b := 10) (by omega) (by omega)) ⟨vp_in_nI (by omega) (by decide), br_t (by rw [ex, q4, q3]) hp⟩)
          · obtain ⟨f, rfl⟩ : ∃ g, f = g + 1 := ⟨f - 1, by omega⟩
            exact br_f (nI_pos (by omega)) ⟨vp_in_nI (by omega) (by decide), br_t (by rw [ey, q3]) hp⟩
        · have hne : ¬ nI k' = nI k := fun z => ck ((nI_eq (by omega) (by omega)).mp z)
          have hX : ∀ (post : Int32 → Prop) i f, i + (e + 1) ≤ 2499 → e + 1 < f + 1 → wX_innermostPlace_7 post (nI k) x_textLength x_pairCount x_placeCount x_procedureCount x_continuationCount x_frameCount x_state x_ending x_form x_environment x_frame x_value x_applied x_argumentCount x_countedCount x_consCount x_entryCount x_outputCount x_itemCount x_text x_firsts x_rests x_placeNames x_placeValues x_placeOuters x_procedureParts x_procedurePlaces x_continuationFrames x_frameTasks x_frameForms x_frameValues x_framePlaces x_frameNexts x_arguments x_outputs x_itemKinds x_itemNumbers x_openLists f (x_placeOuters (e + 10)) (nI (i + 1)) → wX_innermostPlace_7 post (nI k) x_textLength x_pairCount x_placeCount x_procedureCount x_continuationCount x_frameCount x_state x_ending x_form x_environment x_frame x_value x_applied x_argumentCount x_countedCount x_consCount x_entryCount x_outputCount x_itemCount x_text x_firsts x_rests x_placeNames x_placeValues x_placeOuters x_procedureParts x_procedurePlaces x_continuationFrames x_frameTasks x_frameForms x_frameValues x_framePlaces x_frameNexts x_arguments x_outputs x_itemKinds x_itemNumbers x_openLists (f + 1) (nI (e + 10)) (nI i) := by
            intro post i f hi hf hp
            exact br_f (nI_ge (b := 2500) (by omega) (by decide)) (br_f (nI_nlt (b := 10) (by omega) (by omega)) ⟨vp_in_nI (by omega) (by decide), br_f (by rw [ex, q4, q3]; exact hne) ⟨vp_in_nI (by omega) (by decide), nm_r (cl_R ex) (nm_r (nI_1 i) hp)⟩⟩)
          have hY : ∀ (post : Int32 → Prop) f, wY_findPlace_2 post (nI k) y_size y_pairs y_open y_formCount y_places y_procedures y_continuationCount y_things y_foundCount y_argumentCount y_value y_form y_wherein y_next y_working y_ending y_counts y_made y_entered y_printCount y_itemCount y_text y_firsts y_rests y_heads y_lasts y_globals y_placeNames y_placeValues y_placeNexts y_procedureForms y_procedurePlaces y_continuations y_whats y_withs y_whereins y_soFars y_afters y_found y_foundNexts y_arguments y_prints y_itemKinds y_itemNumbers y_pile f (y_placeNexts e) → wY_findPlace_2 post (nI k) y_size y_pairs y_open y_formCount y_places y_procedures y_continuationCount y_things y_foundCount y_argumentCount y_value y_form y_wherein y_next y_working y_ending y_counts y_made y_entered y_printCount y_itemCount y_text y_firsts y_rests y_heads y_lasts y_globals y_placeNames y_placeValues y_placeNexts y_procedureForms y_procedurePlaces y_continuations y_whats y_withs y_whereins y_soFars y_afters y_found y_foundNexts y_arguments y_prints y_itemKinds y_itemNumbers y_pile (f + 1) (nI e) := by
            intro post f hp
            exact br_f (nI_pos (by omega)) ⟨vp_in_nI (by omega) (by decide), br_f (by rw [ey, q3]; exact hne) ⟨vp_in_nI (by omega) (by decide), nm_r (cl_R ey) hp⟩⟩
          rcases ih _ _ q6 (by omega) with ⟨r, r1, r2, r3⟩ | ⟨r2, r3⟩
          · refine Or.inl ⟨r, r1, fun post i f hi hf hp => ?_, fun post f hf hp => ?_⟩
            · obtain ⟨f, rfl⟩ : ∃ g, f = g + 1 := ⟨f - 1, by omega⟩
              exact hX post i f hi hf (r2 post (i + 1) f (by omega) (by omega) hp)
            · obtain ⟨f, rfl⟩ : ∃ g, f = g + 1 := ⟨f - 1, by omega⟩
              exact hY post f (r3 post f (by omega) hp)
          · refine Or.inr ⟨fun post i f hi hf hp => ?_, fun post f hf hp => ?_⟩
            · obtain ⟨f, rfl⟩ : ∃ g, f = g + 1 := ⟨f - 1, by omega⟩
              exact hX post i f hi hf (r2 post (i + 1) f (by omega) (by omega) hp)
            · obtain ⟨f, rfl⟩ : ∃ g, f = g + 1 := ⟨f - 1, by omega⟩
              exact hY post f (r3 post f (by omega) hp)
end
end
section
/-! a form is worked out: the simple cases -/
section
variable {x_textLength : Int32} {x_pairCount : Int32} {x_placeCount : Int32} {x_procedureCount : Int32} {x_continuationCount : Int32} {x_frameCount : Int32} {x_state : Int32} {x_ending : Int32} {x_form : Int64} {x_environment : Int32} {x_frame : Int32} {x_value : Int64} {x_applied : Int64} {x_argumentCount : Int32} {x_countedCount : Int32} {x_consCount : Int32} {x_entryCount : Int32} {x_outputCount : Int32} {x_itemCount : Int32} {x_text : Nat → Int32} {x_firsts : Nat → Int64} {x_rests : Nat → Int64} {x_placeNames : Nat → Int32} {x_placeValues : Nat → Int64} {x_placeOuters : Nat → Int32} {x_procedureParts : Nat → Int64} {x_procedurePlaces : Nat → Int32} {x_continuationFrames : Nat → Int32} {x_frameTasks : Nat → Int32} {x_frameForms : Nat → Int64} {x_frameValues : Nat → Int64} {x_framePlaces : Nat → Int32} {x_frameNexts : Nat → Int32} {x_arguments : Nat → Int64} {x_outputs : Nat → Int32} {x_itemKinds : Nat → Int32} {x_itemNumbers : Nat → Int32} {x_openLists : Nat → Int64}
variable {y_size : Int32} {y_pairs : Int32} {y_open : Int32} {y_formCount : Int32} {y_places : Int32} {y_procedures : Int32} {y_continuationCount : Int32} {y_things : Int32} {y_foundCount : Int32} {y_argumentCount : Int32} {y_value : Int64} {y_form : Int64} {y_wherein : Int32} {y_next : Int32} {y_working : Int32} {y_ending : Int32} {y_counts : Int32} {y_made : Int32} {y_entered : Int32} {y_printCount : Int32} {y_itemCount : Int32} {y_text : Nat → Int32} {y_firsts : Nat → Int64} {y_rests : Nat → Int64} {y_heads : Nat → Int32} {y_lasts : Nat → Int32} {y_globals : Nat → Int64} {y_placeNames : Nat → Int32} {y_placeValues : Nat → Int64} {y_placeNexts : Nat → Int32} {y_procedureForms : Nat → Int64} {y_procedurePlaces : Nat → Int32} {y_continuations : Nat → Int32} {y_whats : Nat → Int32} {y_withs : Nat → Int64} {y_whereins : Nat → Int32} {y_soFars : Nat → Int32} {y_afters : Nat → Int32} {y_found : Nat → Int64} {y_foundNexts : Nat → Int32} {y_arguments : Nat → Int64} {y_prints : Nat → Int32} {y_itemKinds : Nat → Int32} {y_itemNumbers : Nat → Int32} {y_pile : Nat → Int64}
variable {T : Nat → Nat} {n px py pl np nc nf fo co cn et pc : Nat} {M : Nat → Nat → Prop} {G : Nat → Nat}
theorem ne_I {a b : Nat} (h : a ≠ b) (ha : a < 2 ^ 31) (hb : b < 2 ^ 31) : ¬ nI a = nI b := fun z => h ((nI_eq ha hb).mp z)
theorem xs_countOne {post : Int32 → SX → Prop} (hc : co < 600) (h : post 1 (x_textLength, x_pairCount, x_placeCount, x_procedureCount, x_continuationCount, x_frameCount, x_state, x_ending, x_form, x_environment, x_frame, x_value, x_applied, x_argumentCount, nI (co + 1), x_consCount, x_entryCount, x_outputCount, x_itemCount, x_text, x_firsts, x_rests, x_placeNames, x_placeValues, x_placeOuters, x_procedureParts, x_procedurePlaces, x_continuationFrames, x_frameTasks, x_frameForms, x_frameValues, x_framePlaces, x_frameNexts, x_arguments, x_outputs, x_itemKinds, x_itemNumbers, x_openLists)) : wpX_countOne post (x_textLength, x_pairCount, x_placeCount, x_procedureCount, x_continuationCount, x_frameCount, x_state, x_ending, x_form, x_environment, x_frame, x_value, x_applied, x_argumentCount, nI co, x_consCount, x_entryCount, x_outputCount, x_itemCount, x_text, x_firsts, x_rests, x_placeNames, x_placeValues, x_placeOuters, x_procedureParts, x_procedurePlaces, x_continuationFrames, x_frameTasks, x_frameForms, x_frameValues, x_framePlaces, x_frameNexts, x_arguments, x_outputs, x_itemKinds, x_itemNumbers, x_openLists) :=
  br_t (nI_lt (b := 600) hc (by decide)) (nm_r (nI_1 co) h)
theorem xs_tired {post : Int32 → SX → Prop} (h : post 0 (x_textLength, x_pairCount, x_placeCount, x_procedureCount, x_continuationCount, x_frameCount, x_state, 2, x_form, x_environment, x_frame, x_value, x_applied, x_argumentCount, nI 600, x_consCount, x_entryCount, x_outputCount, x_itemCount, x_text, x_firsts, x_rests, x_placeNames, x_placeValues, x_placeOuters, x_procedureParts, x_procedurePlaces, x_continuationFrames, x_frameTasks, x_frameForms, x_frameValues, x_framePlaces, x_frameNexts, x_arguments, x_outputs, x_itemKinds, x_itemNumbers, x_openLists)) : wpX_countOne post (x_textLength, x_pairCount, x_placeCount, x_procedureCount, x_continuationCount, x_frameCount, x_state, x_ending, x_form, x_environment, x_frame, x_value, x_applied, x_argumentCount, nI 600, x_consCount, x_entryCount, x_outputCount, x_itemCount, x_text, x_firsts, x_rests, x_placeNames, x_placeValues, x_placeOuters, x_procedureParts, x_procedurePlaces, x_continuationFrames, x_frameTasks, x_frameForms, x_frameValues, x_framePlaces, x_frameNexts, x_arguments, x_outputs, x_itemKinds, x_itemNumbers, x_openLists) :=
  br_f (by decide) h
theorem ys_count {post : SY → Prop} (hc : co < 600) (h : post (y_size, y_pairs, y_open, y_formCount, y_places, y_procedures, y_continuationCount, y_things, y_foundCount, y_argumentCount, y_value, y_form, y_wherein, y_next, y_working, y_ending, nI (co + 1), y_made, y_entered, y_printCount, y_itemCount, y_text, y_firsts, y_rests, y_heads, y_lasts, y_globals, y_placeNames, y_placeValues, y_placeNexts, y_procedureForms, y_procedurePlaces, y_continuations, y_whats, y_withs, y_whereins, y_soFars, y_afters, y_found, y_foundNexts, y_arguments, y_prints, y_itemKinds, y_itemNumbers, y_pile)) : wpY_count post (y_size, y_pairs, y_open, y_formCount, y_places, y_procedures, y_continuationCount, y_things, y_foundCount, y_argumentCount, y_value, y_form, y_wherein, y_next, y_working, y_ending, nI co, y_made, y_entered, y_printCount, y_itemCount, y_text, y_firsts, y_rests, y_heads, y_lasts, y_globals, y_placeNames, y_placeValues, y_placeNexts, y_procedureForms, y_procedurePlaces, y_continuations, y_whats, y_withs, y_whereins, y_soFars, y_afters, y_found, y_foundNexts, y_arguments, y_prints, y_itemKinds, y_itemNumbers, y_pile) :=
  br_f (ne_I (b := 600) (by omega) (by omega) (by decide)) (nm_r (nI_1 co) h)
theorem ys_tired {post : SY → Prop} (h : post (y_size, y_pairs, y_open, y_formCount, y_places, y_procedures, y_continuationCount, y_things, y_foundCount, y_argumentCount, y_value, y_form, y_wherein, y_next, y_working, 2, nI 600, y_made, y_entered, y_printCount, y_itemCount, y_text, y_firsts, y_rests, y_heads, y_lasts, y_globals, y_placeNames, y_placeValues, y_placeNexts, y_procedureForms, y_procedurePlaces, y_continuations, y_whats, y_withs, y_whereins, y_soFars, y_afters, y_found, y_foundNexts, y_arguments, y_prints, y_itemKinds, y_itemNumbers, y_pile)) : wpY_count post (y_size, y_pairs, y_open, y_formCount, y_places, y_procedures, y_continuationCount, y_things, y_foundCount, y_argumentCount, y_value, y_form, y_wherein, y_next, y_working, y_ending, nI 600, y_made, y_entered, y_printCount, y_itemCount, y_text, y_firsts, y_rests, y_heads, y_lasts, y_globals, y_placeNames, y_placeValues, y_placeNexts, y_procedureForms, y_procedurePlaces, y_continuations, y_whats, y_withs, y_whereins, y_soFars, y_afters, y_found, y_foundNexts, y_arguments, y_prints, y_itemKinds, y_itemNumbers, y_pile) := br_t rfl h
theorem xs_tagOf {post : Int32 → Prop} {t a : Nat} (h : t < 16) (ha : a < 4294967296) (hp : post (nI t)) : wpX_tagOf post (zv_c t a) := by
  unfold wpX_tagOf
  rw [zv_tg h ha]
  exact hp
theorem sm_mkV {y x : Int64} (h : sm_R T n M G px py pl np nc nf fo co cn et pc (x_textLength, x_pairCount, x_placeCount, x_procedureCount, x_continuationCount, x_frameCount, x_state, x_ending, x_form, x_environment, x_frame, x_value, x_applied, x_argumentCount, x_countedCount, x_consCount, x_entryCount, x_outputCount, x_itemCount, x_text, x_firsts, x_rests, x_placeNames, x_placeValues, x_placeOuters, x_procedureParts, x_procedurePlaces, x_continuationFrames, x_frameTasks, x_frameForms, x_frameValues, x_framePlaces, x_frameNexts, x_arguments, x_outputs, x_itemKinds, x_itemNumbers, x_openLists) (y_size, y_pairs, y_open, y_formCount, y_places, y_procedures, y_continuationCount, y_things, y_foundCount, y_argumentCount, y_value, y_form, y_wherein, y_next, y_working, y_ending, y_counts, y_made, y_entered, y_printCount, y_itemCount, y_text, y_firsts, y_rests, y_heads, y_lasts, y_globals, y_placeNames, y_placeValues, y_placeNexts, y_procedureForms, y_procedurePlaces, y_continuations, y_whats, y_withs, y_whereins, y_soFars, y_afters, y_found, y_foundNexts, y_arguments, y_prints, y_itemKinds, y_itemNumbers, y_pile)) (hb : fo ≤ co ∧ nf ≤ co) (hx : x_ending = -1) (hy : y_ending = -1000000003) (hV : zv_V M np nc y x) (hf : x_frame = y_next) (hf2 : fm_N nf y_next) :
    ∃ f, f ≤ co ∧ sm_V T n co f (x_textLength, x_pairCount, x_placeCount, x_procedureCount, x_continuationCount, x_frameCount, 2, x_ending, x_form, x_environment, x_frame, x, x_applied, x_argumentCount, x_countedCount, x_consCount, x_entryCount, x_outputCount, x_itemCount, x_text, x_firsts, x_rests, x_placeNames, x_placeValues, x_placeOuters, x_procedureParts, x_procedurePlaces, x_continuationFrames, x_frameTasks, x_frameForms, x_frameValues, x_framePlaces, x_frameNexts, x_arguments, x_outputs, x_itemKinds, x_itemNumbers, x_openLists) (y_size, y_pairs, y_open, y_formCount, y_places, y_procedures, y_continuationCount, y_things, y_foundCount, y_argumentCount, y, y_form, y_wherein, y_next, 0, y_ending, y_counts, y_made, y_entered, y_printCount, y_itemCount, y_text, y_firsts, y_rests, y_heads, y_lasts, y_globals, y_placeNames, y_placeValues, y_placeNexts, y_procedureForms, y_procedurePlaces, y_continuations, y_whats, y_withs, y_whereins, y_soFars, y_afters, y_found, y_foundNexts, y_arguments, y_prints, y_itemKinds, y_itemNumbers, y_pile) := by
  rcases hf2 with z | ⟨m, m1, z⟩
  · exact ⟨0, by omega, M, G, px, py, pl, np, nc, nf, fo, cn, et, pc, h, hb, rfl, hx, hy, rfl, hV, hf, Or.inl ⟨rfl, z⟩⟩
  · exact ⟨m + 1, by omega, M, G, px, py, pl, np, nc, nf, fo, cn, et, pc, h, hb, rfl, hx, hy, rfl, hV, hf, Or.inr ⟨m, m1, rfl, z⟩⟩
/-- where a step may lead, co counted -/
def sm_to (T : Nat → Nat) (n co : Nat) (u : SX) (v : SY) : Prop := sm_E T n u v ∨ sm_F T n co u v ∨ ∃ f, f ≤ co ∧ sm_V T n co f u v
theorem st_tired (h : sm_F T n co (x_textLength, x_pairCount, x_placeCount, x_procedureCount, x_continuationCount, x_frameCount, x_state, x_ending, x_form, x_environment, x_frame, x_value, x_applied, x_argumentCount, x_countedCount, x_consCount, x_entryCount, x_outputCount, x_itemCount, x_text, x_firsts, x_rests, x_placeNames, x_placeValues, x_placeOuters, x_procedureParts, x_procedurePlaces, x_continuationFrames, x_frameTasks, x_frameForms, x_frameValues, x_framePlaces, x_frameNexts, x_arguments, x_outputs, x_itemKinds, x_itemNumbers, x_openLists) (y_size, y_pairs, y_open, y_formCount, y_places, y_procedures, y_continuationCount, y_things, y_foundCount, y_argumentCount, y_value, y_form, y_wherein, y_next, y_working, y_ending, y_counts, y_made, y_entered, y_printCount, y_itemCount, y_text, y_firsts, y_rests, y_heads, y_lasts, y_globals, y_placeNames, y_placeValues, y_placeNexts, y_procedureForms, y_procedurePlaces, y_continuations, y_whats, y_withs, y_whereins, y_soFars, y_afters, y_found, y_foundNexts, y_arguments, y_prints, y_itemKinds, y_itemNumbers, y_pile)) (hc : co = 600) : ∃ u' v', (∀ post : SX → Prop, post u' → wpX_workOut post (x_textLength, x_pairCount, x_placeCount, x_procedureCount, x_continuationCount, x_frameCount, x_state, x_ending, x_form, x_environment, x_frame, x_value, x_applied, x_argumentCount, x_countedCount, x_consCount, x_entryCount, x_outputCount, x_itemCount, x_text, x_firsts, x_rests, x_placeNames, x_placeValues, x_placeOuters, x_procedureParts, x_procedurePlaces, x_continuationFrames, x_frameTasks, x_frameForms, x_frameValues, x_framePlaces, x_frameNexts, x_arguments, x_outputs, x_itemKinds, x_itemNumbers, x_openLists)) ∧ (∀ post : SY → Prop, post v' → wpY_work post (y_size, y_pairs, y_open, y_formCount, y_places, y_procedures, y_continuationCount, y_things, y_foundCount, y_argumentCount, y_value, y_form, y_wherein, y_next, y_working, y_ending, y_counts, y_made, y_entered, y_printCount, y_itemCount, y_text, y_firsts, y_rests, y_heads, y_lasts, y_globals, y_placeNames, y_placeValues, y_placeNexts, y_procedureForms, y_procedurePlaces, y_continuations, y_whats, y_withs, y_whereins, y_soFars, y_afters, y_found, y_foundNexts, y_arguments, y_prints, y_itemKinds, y_itemNumbers, y_pile)) ∧ sm_E T n u' v' := by
  subst hc
  obtain ⟨M, G, px, py, pl, np, nc, nf, fo, cn, et, pc, j, h, hb, s1, s2, s3, s4, s5, s6, s7, s8, s9, s10⟩ := h
  have h' := h
  obtain ⟨a, ⟨n1, n2, n3, n4, n5, n6, n7, n8, n9, n10, n11⟩, ⟨m1, m2, m3, m4, m5, m6, m7, m8, m9, m10, m11⟩, b, c1, c2, c3, c4, c5, c6, c7, c8⟩ := h
  subst n7 m8
  refine ⟨(x_textLength, x_pairCount, x_placeCount, x_procedureCount, x_continuationCount, x_frameCount, x_state, 2, x_form, x_environment, x_frame, x_value, x_applied, x_argumentCount, nI 600, x_consCount, x_entryCount, x_outputCount, x_itemCount, x_text, x_firsts, x_rests, x_placeNames, x_placeValues, x_placeOuters, x_procedureParts, x_procedurePlaces, x_continuationFrames, x_frameTasks, x_frameForms, x_frameValues, x_framePlaces, x_frameNexts, x_arguments, x_outputs, x_itemKinds, x_itemNumbers, x_openLists), (y_size, y_pairs, y_open, y_formCount, y_places, y_procedures, y_continuationCount, y_things, y_foundCount, y_argumentCount, y_value, y_form, y_wherein, y_next, y_working, 2, nI 600, y_made, y_entered, y_printCount, y_itemCount, y_text, y_firsts, y_rests, y_heads, y_lasts, y_globals, y_placeNames, y_placeValues, y_placeNexts, y_procedureForms, y_procedurePlaces, y_continuations, y_whats, y_withs, y_whereins, y_soFars, y_afters, y_found, y_foundNexts, y_arguments, y_prints, y_itemKinds, y_itemNumbers, y_pile), fun post hp => by unfold wpX_workOut; exact xs_tired (br_t rfl hp), fun post hp => by unfold wpY_work; exact ys_tired (br_f (by decide) hp), sm_E_R (e := 2) h' (by decide) (by decide)⟩
/-- numbers and truths -/
theorem st_self {t s k : Nat} (h : sm_R T n M G px py pl np nc nf fo (co + 1) cn et pc (x_textLength, x_pairCount, x_placeCount, x_procedureCount, x_continuationCount, x_frameCount, x_state, x_ending, zv_c s k, x_environment, x_frame, x_value, x_applied, x_argumentCount, nI (co + 1), x_consCount, x_entryCount, x_outputCount, x_itemCount, x_text, x_firsts, x_rests, x_placeNames, x_placeValues, x_placeOuters, x_procedureParts, x_procedurePlaces, x_continuationFrames, x_frameTasks, x_frameForms, x_frameValues, x_framePlaces, x_frameNexts, x_arguments, x_outputs, x_itemKinds, x_itemNumbers, x_openLists) (y_size, y_pairs, y_open, y_formCount, y_places, y_procedures, y_continuationCount, y_things, y_foundCount, y_argumentCount, y_value, zv_c t k, y_wherein, y_next, y_working, y_ending, nI (co + 1), y_made, y_entered, y_printCount, y_itemCount, y_text, y_firsts, y_rests, y_heads, y_lasts, y_globals, y_placeNames, y_placeValues, y_placeNexts, y_procedureForms, y_procedurePlaces, y_continuations, y_whats, y_withs, y_whereins, y_soFars, y_afters, y_found, y_foundNexts, y_arguments, y_prints, y_itemKinds, y_itemNumbers, y_pile)) (hc : co < 600) (hb : fo ≤ co + 1 ∧ nf ≤ co + 1) (hx : x_ending = -1) (hy : y_ending = -1000000003) (hf : x_frame = y_next) (hf2 : fm_N nf y_next)
    (hk : k < 4294967296) (ht : (t = 0 ∧ s = 0) ∨ (t = 1 ∧ s = 4 ∧ k < 2)) :
    ∃ u' v', (∀ post : SX → Prop, post u' → wpX_workOut post (x_textLength, x_pairCount, x_placeCount, x_procedureCount, x_continuationCount, x_frameCount, x_state, x_ending, zv_c s k, x_environment, x_frame, x_value, x_applied, x_argumentCount, nI co, x_consCount, x_entryCount, x_outputCount, x_itemCount, x_text, x_firsts, x_rests, x_placeNames, x_placeValues, x_placeOuters, x_procedureParts, x_procedurePlaces, x_continuationFrames, x_frameTasks, x_frameForms, x_frameValues, x_framePlaces, x_frameNexts, x_arguments, x_outputs, x_itemKinds, x_itemNumbers, x_openLists)) ∧ (∀ post : SY → Prop, post v' → wpY_work post (y_size, y_pairs, y_open, y_formCount, y_places, y_procedures, y_continuationCount, y_things, y_foundCount, y_argumentCount, y_value, zv_c t k, y_wherein, y_next, y_working, y_ending, nI co, y_made, y_entered, y_printCount, y_itemCount, y_text, y_firsts, y_rests, y_heads, y_lasts, y_globals, y_placeNames, y_placeValues, y_placeNexts, y_procedureForms, y_procedurePlaces, y_continuations, y_whats, y_withs, y_whereins, y_soFars, y_afters, y_found, y_foundNexts, y_arguments, y_prints, y_itemKinds, y_itemNumbers, y_pile)) ∧ sm_to T n (co + 1) u' v' := by
  have hV : zv_V M np nc (zv_c t k) (zv_c s k) := by
    rcases ht with ⟨rfl, rfl⟩ | ⟨rfl, rfl, h2⟩
    · exact ⟨0, k, 0, k, hk, hk, rfl, rfl, Or.inl ⟨rfl, rfl, rfl⟩⟩
    · exact ⟨1, k, 4, k, hk, hk, rfl, rfl, Or.inr (Or.inl ⟨rfl, rfl, rfl, h2⟩)⟩
  subst hx hy
  obtain ⟨f, hf9, hv⟩ := sm_mkV h hb rfl rfl hV hf hf2
  refine ⟨_, _, fun post hp => ?_, fun post hp => ?_, Or.inr (Or.inr ⟨f, hf9, hv⟩)⟩
  · unfold wpX_workOut
    refine xs_countOne hc (br_f (by decide) (xs_tagOf (by omega) hk (br_f (ne_I (b := 1) (by omega) (by omega) (by decide)) (br_f (ne_I (b := 3) (by omega) (by omega) (by decide)) (br_f (ne_I (b := 2) (by omega) (by omega) (by decide)) hp)))))
  · unfold wpY_work
    exact ys_count hc (br_t rfl (ys_tag (by omega) hk (br_f (nI_ge (b := 2) (by omega) (by decide)) hp)))
/-- what is no form: a word, the empty list -/
theorem st_syntax {t s k : Nat} (h : sm_R T n M G px py pl np nc nf fo (co + 1) cn et pc (x_textLength, x_pairCount, x_placeCount, x_procedureCount, x_continuationCount, x_frameCount, x_state, x_ending, zv_c s k, x_environment, x_frame, x_value, x_applied, x_argumentCount, nI (co + 1), x_consCount, x_entryCount, x_outputCount, x_itemCount, x_text, x_firsts, x_rests, x_placeNames, x_placeValues, x_placeOuters, x_procedureParts, x_procedurePlaces, x_continuationFrames, x_frameTasks, x_frameForms, x_frameValues, x_framePlaces, x_frameNexts, x_arguments, x_outputs, x_itemKinds, x_itemNumbers, x_openLists) (y_size, y_pairs, y_open, y_formCount, y_places, y_procedures, y_continuationCount, y_things, y_foundCount, y_argumentCount, y_value, zv_c t k, y_wherein, y_next, y_working, y_ending, nI (co + 1), y_made, y_entered, y_printCount, y_itemCount, y_text, y_firsts, y_rests, y_heads, y_lasts, y_globals, y_placeNames, y_placeValues, y_placeNexts, y_procedureForms, y_procedurePlaces, y_continuations, y_whats, y_withs, y_whereins, y_soFars, y_afters, y_found, y_foundNexts, y_arguments, y_prints, y_itemKinds, y_itemNumbers, y_pile)) (hc : co < 600) (hy : y_ending = -1000000003)
    (ht : (t = 2 ∧ s = 3 ∧ k = 0) ∨ (t = 4 ∧ s = 1 ∧ 40 ≤ k ∧ k ≤ 45)) :
    ∃ u' v', (∀ post : SX → Prop, post u' → wpX_workOut post (x_textLength, x_pairCount, x_placeCount, x_procedureCount, x_continuationCount, x_frameCount, x_state, x_ending, zv_c s k, x_environment, x_frame, x_value, x_applied, x_argumentCount, nI co, x_consCount, x_entryCount, x_outputCount, x_itemCount, x_text, x_firsts, x_rests, x_placeNames, x_placeValues, x_placeOuters, x_procedureParts, x_procedurePlaces, x_continuationFrames, x_frameTasks, x_frameForms, x_frameValues, x_framePlaces, x_frameNexts, x_arguments, x_outputs, x_itemKinds, x_itemNumbers, x_openLists)) ∧ (∀ post : SY → Prop, post v' → wpY_work post (y_size, y_pairs, y_open, y_formCount, y_places, y_procedures, y_continuationCount, y_things, y_foundCount, y_argumentCount, y_value, zv_c t k, y_wherein, y_next, y_working, y_ending, nI co, y_made, y_entered, y_printCount, y_itemCount, y_text, y_firsts, y_rests, y_heads, y_lasts, y_globals, y_placeNames, y_placeValues, y_placeNexts, y_procedureForms, y_procedurePlaces, y_continuations, y_whats, y_withs, y_whereins, y_soFars, y_afters, y_found, y_foundNexts, y_arguments, y_prints, y_itemKinds, y_itemNumbers, y_pile)) ∧ sm_to T n (co + 1) u' v' := by
  subst hy
  have hE := sm_E_R (e := 4) h (by decide) (by decide)
  refine ⟨_, _, fun post hp => ?_, fun post hp => ?_, Or.inl hE⟩
  · rcases ht with ⟨rfl, rfl, rfl⟩ | ⟨rfl, rfl, h1, h2⟩
    · unfold wpX_workOut
      exact xs_countOne hc (br_f (by decide) (xs_tagOf (by decide) (by decide) (br_f (by decide) (br_t rfl hp))))
    · unfold wpX_workOut
      refine xs_countOne hc (br_f (by decide) (xs_tagOf (by decide) (by omega) (br_t rfl ?_)))
      rw [zv_lo]
      exact br_t (nI_lt (b := 50) (by omega) (by decide)) (br_f (nI_ge (a := 39) (by omega) (by omega)) hp)
  · rcases ht with ⟨rfl, rfl, rfl⟩ | ⟨rfl, rfl, h1, h2⟩
    · unfold wpY_work
      exact ys_count hc (br_t rfl (ys_tag (by decide) (by decide) (br_t (by decide) (br_f (by decide) (br_f (by decide) (br_f (by decide) hp))))))
    · unfold wpY_work
      refine ys_count hc (br_t rfl (ys_tag (by decide) (by omega) (br_t (by decide) (br_t rfl ?_))))
      rw [zv_lo]
      exact br_t (nI_le (a := 40) (by omega) (by omega)) (br_t rfl (br_t (nI_le (b := 49) (by omega) (by decide)) (br_f (by decide) hp)))
/-- the name of a built-in procedure -/
theorem st_builtin {k : Nat} (h : sm_R T n M G px py pl np nc nf fo (co + 1) cn et pc (x_textLength, x_pairCount, x_placeCount, x_procedureCount, x_continuationCount, x_frameCount, x_state, x_ending, zv_c 1 k, x_environment, x_frame, x_value, x_applied, x_argumentCount, nI (co + 1), x_consCount, x_entryCount, x_outputCount, x_itemCount, x_text, x_firsts, x_rests, x_placeNames, x_placeValues, x_placeOuters, x_procedureParts, x_procedurePlaces, x_continuationFrames, x_frameTasks, x_frameForms, x_frameValues, x_framePlaces, x_frameNexts, x_arguments, x_outputs, x_itemKinds, x_itemNumbers, x_openLists) (y_size, y_pairs, y_open, y_formCount, y_places, y_procedures, y_continuationCount, y_things, y_foundCount, y_argumentCount, y_value, zv_c 4 k, y_wherein, y_next, y_working, y_ending, nI (co + 1), y_made, y_entered, y_printCount, y_itemCount, y_text, y_firsts, y_rests, y_heads, y_lasts, y_globals, y_placeNames, y_placeValues, y_placeNexts, y_procedureForms, y_procedurePlaces, y_continuations, y_whats, y_withs, y_whereins, y_soFars, y_afters, y_found, y_foundNexts, y_arguments, y_prints, y_itemKinds, y_itemNumbers, y_pile)) (hc : co < 600) (hb : fo ≤ co + 1 ∧ nf ≤ co + 1) (hx : x_ending = -1) (hy : y_ending = -1000000003) (hf : x_frame = y_next) (hf2 : fm_N nf y_next)
    (h1 : 50 ≤ k) (h2 : k ≤ 64) :
    ∃ u' v', (∀ post : SX → Prop, post u' → wpX_workOut post (x_textLength, x_pairCount, x_placeCount, x_procedureCount, x_continuationCount, x_frameCount, x_state, x_ending, zv_c 1 k, x_environment, x_frame, x_value, x_applied, x_argumentCount, nI co, x_consCount, x_entryCount, x_outputCount, x_itemCount, x_text, x_firsts, x_rests, x_placeNames, x_placeValues, x_placeOuters, x_procedureParts, x_procedurePlaces, x_continuationFrames, x_frameTasks, x_frameForms, x_frameValues, x_framePlaces, x_frameNexts, x_arguments, x_outputs, x_itemKinds, x_itemNumbers, x_openLists)) ∧ (∀ post : SY → Prop, post v' → wpY_work post (y_size, y_pairs, y_open, y_formCount, y_places, y_procedures, y_continuationCount, y_things, y_foundCount, y_argumentCount, y_value, zv_c 4 k, y_wherein, y_next, y_working, y_ending, nI co, y_made, y_entered, y_printCount, y_itemCount, y_text, y_firsts, y_rests, y_heads, y_lasts, y_globals, y_placeNames, y_placeValues, y_placeNexts, y_procedureForms, y_procedurePlaces, y_continuations, y_whats, y_withs, y_whereins, y_soFars, y_afters, y_found, y_foundNexts, y_arguments, y_prints, y_itemKinds, y_itemNumbers, y_pile)) ∧ sm_to T n (co + 1) u' v' := by
  have hV : zv_V M np nc (zv_c 6 k) (zv_c 6 k) := ⟨6, k, 6, k, by omega, by omega, rfl, rfl, Or.inr (Or.inr (Or.inr (Or.inr (Or.inr (Or.inr (Or.inl ⟨rfl, rfl, rfl, h1, h2⟩))))))⟩
  subst hx hy
  obtain ⟨f, hf9, hv⟩ := sm_mkV h hb rfl rfl hV hf hf2
  refine ⟨_, _, fun post hp => ?_, fun post hp => ?_, Or.inr (Or.inr ⟨f, hf9, hv⟩)⟩
  · unfold wpX_workOut
    refine xs_countOne hc (br_f (by decide) (xs_tagOf (by decide) (by omega) (br_t rfl ?_)))
    rw [zv_lo]
    exact br_f (nI_nlt (b := 50) (by omega) (by omega)) (xs_tagged (t := 6) (k := k) rfl rfl (by decide) (by omega) hp)
  · unfold wpY_work
    refine ys_count hc (br_t rfl (ys_tag (by decide) (by omega) (br_t (by decide) (br_t rfl ?_))))
    rw [zv_lo]
    exact br_t (nI_le (a := 40) (by omega) (by omega)) (br_t rfl (br_f (nI_ge (a := 49) (by omega) (by omega)) (ys_thing (t := 6) (k := k) rfl rfl (by decide) (by omega) hp)))
/-- a name -/
theorem st_name {k : Nat} (h : sm_R T n M G px py pl np nc nf fo (co + 1) cn et pc (x_textLength, x_pairCount, x_placeCount, x_procedureCount, x_continuationCount, x_frameCount, x_state, x_ending, zv_c 1 k, x_environment, x_frame, x_value, x_applied, x_argumentCount, nI (co + 1), x_consCount, x_entryCount, x_outputCount, x_itemCount, x_text, x_firsts, x_rests, x_placeNames, x_placeValues, x_placeOuters, x_procedureParts, x_procedurePlaces, x_continuationFrames, x_frameTasks, x_frameForms, x_frameValues, x_framePlaces, x_frameNexts, x_arguments, x_outputs, x_itemKinds, x_itemNumbers, x_openLists) (y_size, y_pairs, y_open, y_formCount, y_places, y_procedures, y_continuationCount, y_things, y_foundCount, y_argumentCount, y_value, zv_c 4 k, y_wherein, y_next, y_working, y_ending, nI (co + 1), y_made, y_entered, y_printCount, y_itemCount, y_text, y_firsts, y_rests, y_heads, y_lasts, y_globals, y_placeNames, y_placeValues, y_placeNexts, y_procedureForms, y_procedurePlaces, y_continuations, y_whats, y_withs, y_whereins, y_soFars, y_afters, y_found, y_foundNexts, y_arguments, y_prints, y_itemKinds, y_itemNumbers, y_pile)) (hc : co < 600) (hb : fo ≤ co + 1 ∧ nf ≤ co + 1) (hx : x_ending = -1) (hy : y_ending = -1000000003) (hf : x_frame = y_next) (hf2 : fm_N nf y_next)
    (he : en_R pl y_wherein x_environment) (h1 : 30 ≤ k) (h2 : k ≤ 39) :
    ∃ u' v', (∀ post : SX → Prop, post u' → wpX_workOut post (x_textLength, x_pairCount, x_placeCount, x_procedureCount, x_continuationCount, x_frameCount, x_state, x_ending, zv_c 1 k, x_environment, x_frame, x_value, x_applied, x_argumentCount, nI co, x_consCount, x_entryCount, x_outputCount, x_itemCount, x_text, x_firsts, x_rests, x_placeNames, x_placeValues, x_placeOuters, x_procedureParts, x_procedurePlaces, x_continuationFrames, x_frameTasks, x_frameForms, x_frameValues, x_framePlaces, x_frameNexts, x_arguments, x_outputs, x_itemKinds, x_itemNumbers, x_openLists)) ∧ (∀ post : SY → Prop, post v' → wpY_work post (y_size, y_pairs, y_open, y_formCount, y_places, y_procedures, y_continuationCount, y_things, y_foundCount, y_argumentCount, y_value, zv_c 4 k, y_wherein, y_next, y_working, y_ending, nI co, y_made, y_entered, y_printCount, y_itemCount, y_text, y_firsts, y_rests, y_heads, y_lasts, y_globals, y_placeNames, y_placeValues, y_placeNexts, y_procedureForms, y_procedurePlaces, y_continuations, y_whats, y_withs, y_whereins, y_soFars, y_afters, y_found, y_foundNexts, y_arguments, y_prints, y_itemKinds, y_itemNumbers, y_pile)) ∧ sm_to T n (co + 1) u' v' := by
  subst hx hy
  have h' := h
  obtain ⟨a, ⟨n1, n2, n3, n4, n5, n6, n7, n8, n9, n10, n11⟩, ⟨m1, m2, m3, m4, m5, m6, m7, m8, m9, m10, m11⟩, b, c1, c2, c3, c4, c5, c6, c7, c8⟩ := h
  -- the two walks down to the place
  have hX : ∀ (post : SX → Prop) (r : Nat), r < 2500 → (∀ (q : Int32 → Prop), q (nI r) → wpX_innermostPlace q (x_textLength, x_pairCount, x_placeCount, x_procedureCount, x_continuationCount, x_frameCount, x_state, -1, zv_c 1 k, x_environment, x_frame, x_value, x_applied, x_argumentCount, nI (co + 1), x_consCount, x_entryCount, x_outputCount, x_itemCount, x_text, x_firsts, x_rests, x_placeNames, x_placeValues, x_placeOuters, x_procedureParts, x_procedurePlaces, x_continuationFrames, x_frameTasks, x_frameForms, x_frameValues, x_framePlaces, x_frameNexts, x_arguments, x_outputs, x_itemKinds, x_itemNumbers, x_openLists) (nI k)) →
      ((x_placeValues r = -1 → post (x_textLength, x_pairCount, x_placeCount, x_procedureCount, x_continuationCount, x_frameCount, 2, 3, zv_c 1 k, x_environment, x_frame, x_placeValues r, x_applied, x_argumentCount, nI (co + 1), x_consCount, x_entryCount, x_outputCount, x_itemCount, x_text, x_firsts, x_rests, x_placeNames, x_placeValues, x_placeOuters, x_procedureParts, x_procedurePlaces, x_continuationFrames, x_frameTasks, x_frameForms, x_frameValues, x_framePlaces, x_frameNexts, x_arguments, x_outputs, x_itemKinds, x_itemNumbers, x_openLists)) ∧ (¬ x_placeValues r = -1 → post (x_textLength, x_pairCount, x_placeCount, x_procedureCount, x_continuationCount, x_frameCount, 2, -1, zv_c 1 k, x_environment, x_frame, x_placeValues r, x_applied, x_argumentCount, nI (co + 1), x_consCount, x_entryCount, x_outputCount, x_itemCount, x_text, x_firsts, x_rests, x_placeNames, x_placeValues, x_placeOuters, x_procedureParts, x_procedurePlaces, x_continuationFrames, x_frameTasks, x_frameForms, x_frameValues, x_framePlaces, x_frameNexts, x_arguments, x_outputs, x_itemKinds, x_itemNumbers, x_openLists))) →
      wpX_workOut post (x_textLength, x_pairCount, x_placeCount, x_procedureCount, x_continuationCount, x_frameCount, x_state, -1, zv_c 1 k, x_environment, x_frame, x_value, x_applied, x_argumentCount, nI co, x_consCount, x_entryCount, x_outputCount, x_itemCount, x_text, x_firsts, x_rests, x_placeNames, x_placeValues, x_placeOuters, x_procedureParts, x_procedurePlaces, x_continuationFrames, x_frameTasks, x_frameForms, x_frameValues, x_framePlaces, x_frameNexts, x_arguments, x_outputs, x_itemKinds, x_itemNumbers, x_openLists) := by
    intro post r hr hq hp
    unfold wpX_workOut
    refine xs_countOne hc (br_f (by decide) (xs_tagOf (by decide) (by omega) (br_t rfl ?_)))
    rw [zv_lo]
    refine br_t (nI_lt (b := 50) (by omega) (by decide)) (br_t (nI_le (b := 39) (by omega) (by decide)) (hq _ ⟨vp_in_nI hr (by decide), ?_⟩))
    rw [nI_clamp (by omega)]
    exact hp
  have hY : ∀ (post : SY → Prop) (r : Int32) (z : Int64), (∀ (q : Int32 → Prop), q r → wpY_findPlace q (y_size, y_pairs, y_open, y_formCount, y_places, y_procedures, y_continuationCount, y_things, y_foundCount, y_argumentCount, y_value, zv_c 4 k, y_wherein, y_next, y_working, -1000000003, nI (co + 1), y_made, y_entered, y_printCount, y_itemCount, y_text, y_firsts, y_rests, y_heads, y_lasts, y_globals, y_placeNames, y_placeValues, y_placeNexts, y_procedureForms, y_procedurePlaces, y_continuations, y_whats, y_withs, y_whereins, y_soFars, y_afters, y_found, y_foundNexts, y_arguments, y_prints, y_itemKinds, y_itemNumbers, y_pile) (nI k) y_wherein) →
      ((0 ≤ r ∧ vp_in r 4000 ∧ y_placeValues r.toNatClampNeg = z) ∨ (¬ 0 ≤ r ∧ y_globals (k - 30) = z)) →
      wY_giveName_32 post z y_size y_pairs y_open y_formCount y_places y_procedures y_continuationCount y_things y_foundCount y_argumentCount y_value (zv_c 4 k) y_wherein y_next y_working (-1000000003) (nI (co + 1)) y_made y_entered y_printCount y_itemCount y_text y_firsts y_rests y_heads y_lasts y_globals y_placeNames y_placeValues y_placeNexts y_procedureForms y_procedurePlaces y_continuations y_whats y_withs y_whereins y_soFars y_afters y_found y_foundNexts y_arguments y_prints y_itemKinds y_itemNumbers y_pile →
      wpY_work post (y_size, y_pairs, y_open, y_formCount, y_places, y_procedures, y_continuationCount, y_things, y_foundCount, y_argumentCount, y_value, zv_c 4 k, y_wherein, y_next, y_working, -1000000003, nI co, y_made, y_entered, y_printCount, y_itemCount, y_text, y_firsts, y_rests, y_heads, y_lasts, y_globals, y_placeNames, y_placeValues, y_placeNexts, y_procedureForms, y_procedurePlaces, y_continuations, y_whats, y_withs, y_whereins, y_soFars, y_afters, y_found, y_foundNexts, y_arguments, y_prints, y_itemKinds, y_itemNumbers, y_pile) := by
    intro post r z hq hz hp
    unfold wpY_work
    refine ys_count hc (br_t rfl (ys_tag (by decide) (by omega) (br_t (by decide) (br_t rfl ?_))))
    rw [zv_lo]
    refine br_f (nI_ge (b := 40) (by omega) (by decide)) (hq _ ?_)
    rcases hz with ⟨z1, z2, z3⟩ | ⟨z1, z3⟩
    · refine br_t z1 ⟨z2, ?_⟩
      rw [z3]
      exact hp
    · have e : nI k - 30 = nI (k - 30) := pk_sub (a := k) (b := 30) h1
      have e2 : (nI (k - 30)).toNatClampNeg = k - 30 := nI_clamp (by omega)
      refine br_f z1 ?_
      rw [e, e2, z3]
      exact ⟨vp_in_nI (by omega) (by decide), hp⟩
  have gn : ∀ (post : SY → Prop) (y x : Int64), zv_V M np nc y x → post (y_size, y_pairs, y_open, y_formCount, y_places, y_procedures, y_continuationCount, y_things, y_foundCount, y_argumentCount, y, zv_c 4 k, y_wherein, y_next, 0, -1000000003, nI (co + 1), y_made, y_entered, y_printCount, y_itemCount, y_text, y_firsts, y_rests, y_heads, y_lasts, y_globals, y_placeNames, y_placeValues, y_placeNexts, y_procedureForms, y_procedurePlaces, y_continuations, y_whats, y_withs, y_whereins, y_soFars, y_afters, y_found, y_foundNexts, y_arguments, y_prints, y_itemKinds, y_itemNumbers, y_pile) → wY_giveName_32 post y y_size y_pairs y_open y_formCount y_places y_procedures y_continuationCount y_things y_foundCount y_argumentCount y_value (zv_c 4 k) y_wherein y_next y_working (-1000000003) (nI (co + 1)) y_made y_entered y_printCount y_itemCount y_text y_firsts y_rests y_heads y_lasts y_globals y_placeNames y_placeValues y_placeNexts y_procedureForms y_procedurePlaces y_continuations y_whats y_withs y_whereins y_soFars y_afters y_found y_foundNexts y_arguments y_prints y_itemKinds y_itemNumbers y_pile := by
    intro post y x hV hp
    obtain ⟨t, q, s, l, q1, q2, rfl, rfl, q3⟩ := hV
    have := zv_K_b q3
    unfold wY_giveName_32
    exact ys_tag (by omega) q1 (br_f (ne_I (b := 9) (by omega) (by omega) (by decide)) hp)
  rcases lk_at h' h1 h2 (by omega) pl _ _ he (Nat.le_refl _) with ⟨e, r1, r2, r3⟩ | ⟨r2, r3⟩
  · obtain ⟨_, _, hV, _⟩ := c5.2 e r1
    have hne : ¬ x_placeValues (e + 10) = -1 := by
      obtain ⟨t, q, s, l, q1, q2, _, q4, q3⟩ := hV
      have := zv_K_b q3
      rw [q4]
      exact zv_ne (by omega) q2
    obtain ⟨f, hf9, hv⟩ := sm_mkV h' hb rfl rfl hV hf hf2
    refine ⟨_, _, fun post hp => ?_, fun post hp => ?_, Or.inr (Or.inr ⟨f, hf9, hv⟩)⟩
    · exact hX post (e + 10) (by omega) (fun q hq => ⟨pl + 1, r2 q 0 (pl + 1) (by omega) (by omega) hq⟩) (br_f hne hp)
    · exact hY post (nI e) (y_placeValues e) (fun q hq => ⟨pl + 1, r3 q (pl + 1) (by omega) hq⟩) (Or.inl ⟨nI_pos' (by omega), vp_in_nI (by omega) (by decide), by rw [nI_clamp (by omega)]⟩) (gn post _ _ hV hp)
  · rcases c5.1 (k - 30) (by omega) with ⟨q1, q2⟩ | hV
    · have h3 : sm_R T n M G px py pl np nc nf fo (co + 1) cn et pc (x_textLength, x_pairCount, x_placeCount, x_procedureCount, x_continuationCount, x_frameCount, 2, -1, zv_c 1 k, x_environment, x_frame, x_placeValues (k - 30), x_applied, x_argumentCount, nI (co + 1), x_consCount, x_entryCount, x_outputCount, x_itemCount, x_text, x_firsts, x_rests, x_placeNames, x_placeValues, x_placeOuters, x_procedureParts, x_procedurePlaces, x_continuationFrames, x_frameTasks, x_frameForms, x_frameValues, x_framePlaces, x_frameNexts, x_arguments, x_outputs, x_itemKinds, x_itemNumbers, x_openLists) (y_size, y_pairs, y_open, y_formCount, y_places, y_procedures, y_continuationCount, y_things, y_foundCount, y_argumentCount, zv_c 9 0, zv_c 4 k, y_wherein, y_next, 0, -1000000003, nI (co + 1), y_made, y_entered, y_printCount, y_itemCount, y_text, y_firsts, y_rests, y_heads, y_lasts, y_globals, y_placeNames, y_placeValues, y_placeNexts, y_procedureForms, y_procedurePlaces, y_continuations, y_whats, y_withs, y_whereins, y_soFars, y_afters, y_found, y_foundNexts, y_arguments, y_prints, y_itemKinds, y_itemNumbers, y_pile) := h'
      have hE := sm_E_R (e := 3) h3 (by decide) (by decide)
      refine ⟨_, _, fun post hp => ?_, fun post hp => ?_, Or.inl hE⟩
      · exact hX post (k - 30) (by omega) (fun q hq => ⟨pl + 1, r2 q 0 (pl + 1) (by omega) (by omega) hq⟩) (br_t q2 hp)
      · exact hY post (-1) (zv_c 9 0) (fun q hq => ⟨pl + 1, r3 q (pl + 1) (by omega) hq⟩) (Or.inr ⟨by decide, q1⟩) (by unfold wY_giveName_32; exact ys_tag (by decide) (by decide) (br_t rfl hp))
    · have hne : ¬ x_placeValues (k - 30) = -1 := by
        obtain ⟨t, q, s, l, q1, q2, _, q4, q3⟩ := hV
        have := zv_K_b q3
        rw [q4]
        exact zv_ne (by omega) q2
      obtain ⟨f, hf9, hv⟩ := sm_mkV h' hb rfl rfl hV hf hf2
      refine ⟨_, _, fun post hp => ?_, fun post hp => ?_, Or.inr (Or.inr ⟨f, hf9, hv⟩)⟩
      · exact hX post (k - 30) (by omega) (fun q hq => ⟨pl + 1, r2 q 0 (pl + 1) (by omega) (by omega) hq⟩) (br_f hne hp)
      · exact hY post (-1) _ (fun q hq => ⟨pl + 1, r3 q (pl + 1) (by omega) hq⟩) (Or.inr ⟨by decide, rfl⟩) (gn post _ _ hV hp)
end
end
section
/-! a form is worked out: applications and words -/
section
variable {x_textLength : Int32} {x_pairCount : Int32} {x_placeCount : Int32} {x_procedureCount : Int32} {x_continuationCount : Int32} {x_frameCount : Int32} {x_state : Int32} {x_ending : Int32} {x_form : Int64} {x_environment : Int32} {x_frame : Int32} {x_value : Int64} {x_applied : Int64} {x_argumentCount : Int32} {x_countedCount : Int32} {x_consCount : Int32} {x_entryCount : Int32} {x_outputCount : Int32} {x_itemCount : Int32} {x_text : Nat → Int32} {x_firsts : Nat → Int64} {x_rests : Nat → Int64} {x_placeNames : Nat → Int32} {x_placeValues : Nat → Int64} {x_placeOuters : Nat → Int32} {x_procedureParts : Nat → Int64} {x_procedurePlaces : Nat → Int32} {x_continuationFrames : Nat → Int32} {x_frameTasks : Nat → Int32} {x_frameForms : Nat → Int64} {x_frameValues : Nat → Int64} {x_framePlaces : Nat → Int32} {x_frameNexts : Nat → Int32} {x_arguments : Nat → Int64} {x_outputs : Nat → Int32} {x_itemKinds : Nat → Int32} {x_itemNumbers : Nat → Int32} {x_openLists : Nat → Int64}
variable {y_size : Int32} {y_pairs : Int32} {y_open : Int32} {y_formCount : Int32} {y_places : Int32} {y_procedures : Int32} {y_continuationCount : Int32} {y_things : Int32} {y_foundCount : Int32} {y_argumentCount : Int32} {y_value : Int64} {y_form : Int64} {y_wherein : Int32} {y_next : Int32} {y_working : Int32} {y_ending : Int32} {y_counts : Int32} {y_made : Int32} {y_entered : Int32} {y_printCount : Int32} {y_itemCount : Int32} {y_text : Nat → Int32} {y_firsts : Nat → Int64} {y_rests : Nat → Int64} {y_heads : Nat → Int32} {y_lasts : Nat → Int32} {y_globals : Nat → Int64} {y_placeNames : Nat → Int32} {y_placeValues : Nat → Int64} {y_placeNexts : Nat → Int32} {y_procedureForms : Nat → Int64} {y_procedurePlaces : Nat → Int32} {y_continuations : Nat → Int32} {y_whats : Nat → Int32} {y_withs : Nat → Int64} {y_whereins : Nat → Int32} {y_soFars : Nat → Int32} {y_afters : Nat → Int32} {y_found : Nat → Int64} {y_foundNexts : Nat → Int32} {y_arguments : Nat → Int64} {y_prints : Nat → Int32} {y_itemKinds : Nat → Int32} {y_itemNumbers : Nat → Int32} {y_pile : Nat → Int64}
variable {T : Nat → Nat} {n px py pl np nc nf fo co cn et pc : Nat} {M : Nat → Nat → Prop} {G : Nat → Nat}
theorem hd_v {h : Nat} (hn : n ≤ 70) (hR : pz_Rd T n) (hT : ∀ i, i < n → zv_tk (T i)) (hh : h < n) (h1 : T h ≠ 1) (hm : ¬ pz_mk T h) (hw : ¬ (40 ≤ T h ∧ T h ≤ 45)) :
    (∃ s l, s < 16 ∧ l < 4294967296 ∧ cd_xv T n h = zv_c s l ∧ ¬ (s = 1 ∧ 40 ≤ l ∧ l ≤ 45)) ∧ (∃ s l, s < 16 ∧ l < 4294967296 ∧ cd_yv T n h = zv_c s l ∧ (s = 4 → l < 40 ∨ (50 ≤ l ∧ l < 100))) := by
  have hP := pz_P_le (T := T) n hn
  have hW := pz_W_le (T := T) (i := n)
  by_cases c0 : T h = 0
  · rw [cd_xv_0 c0, cd_yv_0 c0]
    by_cases c : h + 1 < n ∧ T (h + 1) ≠ 1
    · have hN : pz_Nd T n 0 (h + 1) := ⟨c.1, Or.inl ⟨rfl, c.2, fun z => by have := pz_mk_s.mp z; omega⟩⟩
      have a1 := pz_AX_lt hR hN
      have a2 := pz_AY_lt hR hN
      rw [cd_xl_p c.1 c.2, cd_yl_p c.1 c.2]
      exact ⟨⟨2, _, by decide, by omega, rfl, by omega⟩, ⟨3, _, by decide, by omega, rfl, fun z => by omega⟩⟩
    · rw [cd_xl_e c, cd_yl_e c]
      exact ⟨⟨3, 0, by decide, by decide, rfl, by omega⟩, ⟨2, 0, by decide, by decide, rfl, fun z => by omega⟩⟩
  · by_cases c2 : T h = 2
    · have hN : pz_Nd T n 1 h := ⟨hh, Or.inr ⟨Or.inl rfl, c2⟩⟩
      have a1 := pz_AX_lt hR hN
      have a2 := pz_AY_lt hR hN
      rw [cd_xv_2 c2, cd_yv_2 c2]
      exact ⟨⟨2, _, by decide, by omega, rfl, by omega⟩, ⟨3, _, by decide, by omega, rfl, fun z => by omega⟩⟩
    · have h3 : 3 ≤ T h := by omega
      rw [cd_xv_a h3, cd_yv_a h3]
      have ht := hT h hh
      rcases cd_atom ht h3 with ⟨a, s, k, k1, k2, _, k3, k4⟩ | ⟨k1, k2, k3⟩
      · rw [k3, k4]
        exact ⟨⟨s, k, by omega, k1, rfl, by omega⟩, ⟨a, k, by omega, k1, rfl, fun z => by omega⟩⟩
      · rw [k2, k3]
        unfold zv_tk at ht
        exact ⟨⟨1, T h, by omega, by omega, rfl, by omega⟩, ⟨4, T h, by omega, by omega, rfl, fun z => by omega⟩⟩
/-- an application: its first form is next -/
theorem st_app {a b h : Nat} (hr : sm_R T n M G px py pl np nc nf fo (co + 1) cn et pc (x_textLength, x_pairCount, x_placeCount, x_procedureCount, x_continuationCount, x_frameCount, x_state, x_ending, zv_c 2 b, x_environment, x_frame, x_value, x_applied, x_argumentCount, nI (co + 1), x_consCount, x_entryCount, x_outputCount, x_itemCount, x_text, x_firsts, x_rests, x_placeNames, x_placeValues, x_placeOuters, x_procedureParts, x_procedurePlaces, x_continuationFrames, x_frameTasks, x_frameForms, x_frameValues, x_framePlaces, x_frameNexts, x_arguments, x_outputs, x_itemKinds, x_itemNumbers, x_openLists) (y_size, y_pairs, y_open, y_formCount, y_places, y_procedures, y_continuationCount, y_things, y_foundCount, y_argumentCount, y_value, zv_c 3 a, y_wherein, y_next, y_working, y_ending, nI (co + 1), y_made, y_entered, y_printCount, y_itemCount, y_text, y_firsts, y_rests, y_heads, y_lasts, y_globals, y_placeNames, y_placeValues, y_placeNexts, y_procedureForms, y_procedurePlaces, y_continuations, y_whats, y_withs, y_whereins, y_soFars, y_afters, y_found, y_foundNexts, y_arguments, y_prints, y_itemKinds, y_itemNumbers, y_pile)) (hc : co < 600) (hb : fo ≤ co + 1 ∧ nf ≤ co + 1) (hx : x_ending = -1) (hs : x_state = 0) (hy : y_ending = -1000000003) (hf : x_frame = y_next) (hf2 : fm_N nf y_next)
    (he : en_R pl y_wherein x_environment) (q1 : a < py) (q2 : b < px) (q3 : h < n) (q4 : T h ≠ 1) (q5 : pz_CF T h) (q6 : y_firsts a = cd_yv T n h) (q7 : x_firsts b = cd_xv T n h) (q8 : y_rests a = cd_yl T n (pz_nx T n h)) (q9 : x_rests b = cd_xl T n (pz_nx T n h)) (q10 : ls_P T n (pz_nx T n h)) (q11 : ¬ (40 ≤ T h ∧ T h ≤ 45)) :
    ∃ u' v', (∀ post : SX → Prop, post u' → wpX_workOut post (x_textLength, x_pairCount, x_placeCount, x_procedureCount, x_continuationCount, x_frameCount, x_state, x_ending, zv_c 2 b, x_environment, x_frame, x_value, x_applied, x_argumentCount, nI co, x_consCount, x_entryCount, x_outputCount, x_itemCount, x_text, x_firsts, x_rests, x_placeNames, x_placeValues, x_placeOuters, x_procedureParts, x_procedurePlaces, x_continuationFrames, x_frameTasks, x_frameForms, x_frameValues, x_framePlaces, x_frameNexts, x_arguments, x_outputs, x_itemKinds, x_itemNumbers, x_openLists)) ∧ (∀ post : SY → Prop, post v' → wpY_work post (y_size, y_pairs, y_open, y_formCount, y_places, y_procedures, y_continuationCount, y_things, y_foundCount, y_argumentCount, y_value, zv_c 3 a, y_wherein, y_next, y_working, y_ending, nI co, y_made, y_entered, y_printCount, y_itemCount, y_text, y_firsts, y_rests, y_heads, y_lasts, y_globals, y_placeNames, y_placeValues, y_placeNexts, y_procedureForms, y_procedurePlaces, y_continuations, y_whats, y_withs, y_whereins, y_soFars, y_afters, y_found, y_foundNexts, y_arguments, y_prints, y_itemKinds, y_itemNumbers, y_pile)) ∧ sm_to T n (co + 1) u' v' := by
  have hr' := hr
  obtain ⟨a0, ⟨n1, n2, n3, n4, n5, n6, n7, n8, n9, n10, n11⟩, ⟨m1, m2, m3, m4, m5, m6, m7, m8, m9, m10, m11⟩, b0, c1, c2, c3, c4, c5, c6, c7, c8⟩ := hr
  subst hx hy hs n6 m6
  obtain ⟨⟨s, l, s1, s2, s3, s4⟩, ⟨s', l', t1, t2, t3, t4⟩⟩ := hd_v a0.2.1 a0.1 a0.2.2.1 q3 q4 q5.1 q11
  have hk := rk_push (w := 4) (ey := y_wherein) (ex := x_environment) (sy := -1) (sx := zv_c 3 0) (f := y_next) hr' he hf2 (Or.inr (Or.inr ⟨_, rfl, q10, rfl, rfl, Or.inl ⟨rfl, rfl⟩⟩))
  have hin : vp_in (zv_c 2 b).toInt32 1400 := zv_in (by omega) (by decide)
  have hcl : (zv_c 2 b).toInt32.toNatClampNeg = b := zv_cl (by omega)
  refine ⟨(x_textLength, x_pairCount, x_placeCount, x_procedureCount, x_continuationCount, nI (nf + 1), 0, -1, cd_xv T n h, x_environment, nI nf, x_value, x_applied, x_argumentCount, nI (co + 1), x_consCount, x_entryCount, x_outputCount, x_itemCount, x_text, x_firsts, x_rests, x_placeNames, x_placeValues, x_placeOuters, x_procedureParts, x_procedurePlaces, x_continuationFrames, upd x_frameTasks nf 4, vp_updL x_frameForms nf (cd_xl T n (pz_nx T n h)), vp_updL x_frameValues nf (zv_c 3 0), upd x_framePlaces nf x_environment, upd x_frameNexts nf y_next, x_arguments, x_outputs, x_itemKinds, x_itemNumbers, x_openLists),
    (y_size, y_pairs, y_open, y_formCount, y_places, y_procedures, y_continuationCount, nI (nf + 1), y_foundCount, y_argumentCount, y_value, cd_yv T n h, y_wherein, nI nf, 1, -1000000003, nI (co + 1), y_made, y_entered, y_printCount, y_itemCount, y_text, y_firsts, y_rests, y_heads, y_lasts, y_globals, y_placeNames, y_placeValues, y_placeNexts, y_procedureForms, y_procedurePlaces, y_continuations, upd y_whats nf 4, vp_updL y_withs nf (cd_yl T n (pz_nx T n h)), upd y_whereins nf y_wherein, upd y_soFars nf (-1), upd y_afters nf y_next, y_found, y_foundNexts, y_arguments, y_prints, y_itemKinds, y_itemNumbers, y_pile), fun post hp => ?_, fun post hp => ?_,
    Or.inr (Or.inl ⟨M, G, px, py, pl, np, nc, nf + 1, fo, cn, et, pc, h, hk, by omega, rfl, rfl, rfl, rfl, ⟨q3, q4, q5⟩, rfl, rfl, he, rfl, Or.inr ⟨nf, by omega, rfl⟩⟩)⟩
  · have h124 : wX_workOut_124 post x_textLength x_pairCount x_placeCount x_procedureCount x_continuationCount (nI nf) 0 (-1) (zv_c 2 b) x_environment x_frame x_value x_applied x_argumentCount (nI (co + 1)) x_consCount x_entryCount x_outputCount x_itemCount x_text x_firsts x_rests x_placeNames x_placeValues x_placeOuters x_procedureParts x_procedurePlaces x_continuationFrames x_frameTasks x_frameForms x_frameValues x_framePlaces x_frameNexts x_arguments x_outputs x_itemKinds x_itemNumbers x_openLists := by
      refine ⟨hin, ?_⟩
      rw [hcl, q9, zk_xE]
      refine xs_push (by omega) ⟨hin, nm_r ((cl_R hcl).trans q7) ?_⟩
      rw [hf]
      exact hp
    unfold wpX_workOut
    refine xs_countOne hc (br_f (by decide) (xs_tagOf (by decide) (by omega) (br_f (by decide) (br_f (by decide) (br_t rfl ⟨hin, ?_⟩)))))
    rw [hcl, q7, s3, zk_40, zk_45]
    by_cases z : zv_c s l < zv_c 1 40
    · exact br_t z h124
    · refine br_f z ⟨hin, br_t ?_ h124⟩
      rw [zv_lt s1 s2 (by decide) (by decide)] at z
      rw [zv_lt (by decide) (by decide) s1 s2]
      omega
  · have h155 : wY_work_155 post (cd_yv T n h) (cd_yl T n (pz_nx T n h)) y_size y_pairs y_open y_formCount y_places y_procedures y_continuationCount (nI nf) y_foundCount y_argumentCount y_value (zv_c 3 a) y_wherein y_next y_working (-1000000003) (nI (co + 1)) y_made y_entered y_printCount y_itemCount y_text y_firsts y_rests y_heads y_lasts y_globals y_placeNames y_placeValues y_placeNexts y_procedureForms y_procedurePlaces y_continuations y_whats y_withs y_whereins y_soFars y_afters y_found y_foundNexts y_arguments y_prints y_itemKinds y_itemNumbers y_pile := by
      unfold wY_work_155
      exact ys_later (by omega) hp
    unfold wpY_work
    refine ys_count hc (br_t rfl (ys_tag (by decide) (by omega) (br_t (by decide) (br_f (by decide) (br_f (by decide) (br_t rfl (ys_firstOf (by omega) (ys_restOf (by omega) ?_))))))))
    rw [q6, q8]
    rw [t3] at h155 ⊢
    refine ys_tag t1 t2 ?_
    rw [zv_lo]
    by_cases z : s' = 4
    · subst z
      have := t4 rfl
      exact br_t rfl (pk_lt l' 40 (fun _ => h155) (fun _ => br_t (nI_le (a := 50) (by omega) (by omega)) h155))
    · exact br_f (ne_I (b := 4) z (by omega) (by decide)) h155
end
end
section
/-! the names of a lambda -/
section
variable {x_textLength : Int32} {x_pairCount : Int32} {x_placeCount : Int32} {x_procedureCount : Int32} {x_continuationCount : Int32} {x_frameCount : Int32} {x_state : Int32} {x_ending : Int32} {x_form : Int64} {x_environment : Int32} {x_frame : Int32} {x_value : Int64} {x_applied : Int64} {x_argumentCount : Int32} {x_countedCount : Int32} {x_consCount : Int32} {x_entryCount : Int32} {x_outputCount : Int32} {x_itemCount : Int32} {x_text : Nat → Int32} {x_firsts : Nat → Int64} {x_rests : Nat → Int64} {x_placeNames : Nat → Int32} {x_placeValues : Nat → Int64} {x_placeOuters : Nat → Int32} {x_procedureParts : Nat → Int64} {x_procedurePlaces : Nat → Int32} {x_continuationFrames : Nat → Int32} {x_frameTasks : Nat → Int32} {x_frameForms : Nat → Int64} {x_frameValues : Nat → Int64} {x_framePlaces : Nat → Int32} {x_frameNexts : Nat → Int32} {x_arguments : Nat → Int64} {x_outputs : Nat → Int32} {x_itemKinds : Nat → Int32} {x_itemNumbers : Nat → Int32} {x_openLists : Nat → Int64}
variable {y_size : Int32} {y_pairs : Int32} {y_open : Int32} {y_formCount : Int32} {y_places : Int32} {y_procedures : Int32} {y_continuationCount : Int32} {y_things : Int32} {y_foundCount : Int32} {y_argumentCount : Int32} {y_value : Int64} {y_form : Int64} {y_wherein : Int32} {y_next : Int32} {y_working : Int32} {y_ending : Int32} {y_counts : Int32} {y_made : Int32} {y_entered : Int32} {y_printCount : Int32} {y_itemCount : Int32} {y_text : Nat → Int32} {y_firsts : Nat → Int64} {y_rests : Nat → Int64} {y_heads : Nat → Int32} {y_lasts : Nat → Int32} {y_globals : Nat → Int64} {y_placeNames : Nat → Int32} {y_placeValues : Nat → Int64} {y_placeNexts : Nat → Int32} {y_procedureForms : Nat → Int64} {y_procedurePlaces : Nat → Int32} {y_continuations : Nat → Int32} {y_whats : Nat → Int32} {y_withs : Nat → Int64} {y_whereins : Nat → Int32} {y_soFars : Nat → Int32} {y_afters : Nat → Int32} {y_found : Nat → Int64} {y_foundNexts : Nat → Int32} {y_arguments : Nat → Int64} {y_prints : Nat → Int32} {y_itemKinds : Nat → Int32} {y_itemNumbers : Nat → Int32} {y_pile : Nat → Int64}
variable {T : Nat → Nat} {n px py np nc : Nat} {M : Nat → Nat → Prop}
theorem na_q {q : Nat} (hR : pz_Rd T n) (hd : 1 ≤ pz_dd T q) (hq : q ≤ n) : q < n := by
  by_cases z : q = n
  · rw [z, hR.2.1] at hd; omega
  · omega
theorem na_bit : ∀ k, k < 10 → (1 : Int32) <<< ((zv_c 1 (30 + k) - 4294967326).toInt32 &&& 31) = na_b (30 + k) ∧ (1 : Int32) <<< ((nI (30 + k) - 30) &&& 31) = na_b (30 + k) ∧ na_b (30 + k) ≠ 0 := by decide +kernel
/-- what is no name -/
theorem nv_x {q : Nat} (hR : pz_Rd T n) (hn : n ≤ 70) (hT : ∀ i, i < n → zv_tk (T i)) (hpx : px ≤ 1400) (hb : ∀ r j, pz_Nd T n r j → pz_AY T n r j < py ∧ pz_AX T n r j < px) (hqn : q < n) (c : T q ≠ 1) (hm : ¬ pz_mk T q) (cn : ¬ (30 ≤ T q ∧ T q ≤ 39)) :
    ∃ s' l', s' < 16 ∧ l' < 4294967296 ∧ cd_xv T n q = zv_c s' l' ∧ ¬ (s' = 1 ∧ 30 ≤ l' ∧ l' ≤ 39) := by
  by_cases w : 40 ≤ T q ∧ T q ≤ 45
  · refine ⟨1, T q, by decide, by omega, ?_, by omega⟩
    rw [cd_xv_a (by omega)]
    unfold zv_xA
    rw [if_neg (by omega), if_neg (by omega)]
  · obtain ⟨⟨s', l', a1, a2, a3, a4⟩, _⟩ := hd_v hn hR hT hqn c hm w
    refine ⟨s', l', a1, a2, a3, ?_⟩
    intro ⟨b1, b2, b3⟩
    subst b1
    by_cases c0 : T q = 0
    · rw [cd_xv_0 c0] at a3
      unfold cd_xl pz_lst at a3
      split at a3
      · rename_i z
        have := (hb 0 (q + 1) ⟨z.1, Or.inl ⟨rfl, z.2, fun y => by have := pz_mk_s.mp y; omega⟩⟩).2
        have := (zv_eq (by decide) (by omega) (by decide) a2).mp a3
        omega
      · have := (zv_eq (by decide) (by decide) (by decide) a2).mp a3
        omega
    · by_cases c2 : T q = 2
      · rw [cd_xv_2 c2] at a3
        have := (hb 1 q ⟨hqn, Or.inr ⟨Or.inl rfl, c2⟩⟩).2
        have := (zv_eq (by decide) (by omega) (by decide) a2).mp a3
        omega
      · rw [cd_xv_a (by omega)] at a3
        have ht := hT q hqn
        rcases cd_atom ht (by omega) with ⟨a, s, k, k1, k2, _, k3, k4⟩ | ⟨k1, k2, k3⟩
        · rw [k4] at a3
          have := (zv_eq (by omega) k1 (by decide) a2).mp a3
          omega
        · unfold zv_tk at ht
          rw [k3] at a3
          have := (zv_eq (by decide) (by omega) (by decide) a2).mp a3
          omega
theorem nv_y {q : Nat} (hR : pz_Rd T n) (hn : n ≤ 70) (hT : ∀ i, i < n → zv_tk (T i)) (hpy : py ≤ 900) (hb : ∀ r j, pz_Nd T n r j → pz_AY T n r j < py ∧ pz_AX T n r j < px) (hqn : q < n) (c : T q ≠ 1) (hm : ¬ pz_mk T q) (cn : ¬ (30 ≤ T q ∧ T q ≤ 39)) :
    ∃ s' l', s' < 16 ∧ l' < 4294967296 ∧ cd_yv T n q = zv_c s' l' ∧ (s' = 4 → 40 ≤ l' ∧ l' < 100) := by
  have ht := hT q hqn
  by_cases c0 : T q = 0
  · rw [cd_yv_0 c0]
    by_cases z : q + 1 < n ∧ T (q + 1) ≠ 1
    · have := (hb 0 (q + 1) ⟨z.1, Or.inl ⟨rfl, z.2, fun y => by have := pz_mk_s.mp y; omega⟩⟩).1
      exact ⟨3, _, by decide, by omega, cd_yl_p z.1 z.2, fun y => by omega⟩
    · exact ⟨2, 0, by decide, by decide, cd_yl_e z, fun y => by omega⟩
  · by_cases c2 : T q = 2
    · have := (hb 1 q ⟨hqn, Or.inr ⟨Or.inl rfl, c2⟩⟩).1
      exact ⟨3, _, by decide, by omega, cd_yv_2 c2, fun y => by omega⟩
    · rw [cd_yv_a (by omega)]
      rcases cd_atom ht (by omega) with ⟨a, s, k, k1, k2, _, k3, k4⟩ | ⟨k1, k2, k3⟩
      · exact ⟨a, k, by omega, k1, k3, fun y => by omega⟩
      · unfold zv_tk at ht
        exact ⟨4, T q, by decide, by omega, k2, fun y => by omega⟩
theorem ys_isName {post : Int32 → Prop} {q : Nat} (hR : pz_Rd T n) (hn : n ≤ 70) (hT : ∀ i, i < n → zv_tk (T i)) (hpy : py ≤ 900) (hb : ∀ r j, pz_Nd T n r j → pz_AY T n r j < py ∧ pz_AX T n r j < px) (hqn : q < n) (c : T q ≠ 1) (hm : ¬ pz_mk T q)
    (g1 : 30 ≤ T q ∧ T q ≤ 39 → post 1) (g0 : ¬ (30 ≤ T q ∧ T q ≤ 39) → post 0) : wpY_isName post (y_size, y_pairs, y_open, y_formCount, y_places, y_procedures, y_continuationCount, y_things, y_foundCount, y_argumentCount, y_value, y_form, y_wherein, y_next, y_working, y_ending, y_counts, y_made, y_entered, y_printCount, y_itemCount, y_text, y_firsts, y_rests, y_heads, y_lasts, y_globals, y_placeNames, y_placeValues, y_placeNexts, y_procedureForms, y_procedurePlaces, y_continuations, y_whats, y_withs, y_whereins, y_soFars, y_afters, y_found, y_foundNexts, y_arguments, y_prints, y_itemKinds, y_itemNumbers, y_pile) (cd_yv T n q) := by
  by_cases cn : 30 ≤ T q ∧ T q ≤ 39
  · have hy : cd_yv T n q = zv_c 4 (T q) := by
      rw [cd_yv_a (by omega)]
      unfold zv_yA
      rw [if_neg (by omega), if_neg (by omega)]
    rw [hy]
    unfold wpY_isName
    refine ys_tag (by decide) (by omega) (br_t rfl ?_)
    rw [zv_lo]
    exact br_f (nI_ge (b := 40) (by omega) (by decide)) (g1 cn)
  · obtain ⟨s', l', a1, a2, a3, a4⟩ := nv_y hR hn hT hpy hb hqn c hm cn
    rw [a3]
    unfold wpY_isName
    refine ys_tag a1 a2 ?_
    by_cases z : s' = 4
    · subst z
      have := a4 rfl
      refine br_t rfl ?_
      rw [zv_lo]
      exact br_t (nI_le (a := 40) (by omega) (by omega)) (g0 cn)
    · exact br_f (ne_I (b := 4) z (by omega) (by decide)) (g0 cn)
theorem na_X {post : Int32 → Prop} (hR : pz_Rd T n) (hn : n ≤ 70) (hT : ∀ i, i < n → zv_tk (T i)) (hpx : px ≤ 1400) (hc : cd_OK T n y_firsts y_rests x_firsts x_rests) (hb : ∀ r j, pz_Nd T n r j → pz_AY T n r j < py ∧ pz_AX T n r j < px) :
    ∀ f i q s, i + f = 4 → q ≤ n → 1 ≤ pz_dd T q → ¬ pz_mk T q → ¬ pz_D0 T q → (na_W T f q s → post 1) → (¬ na_W T f q s → post 0) → wX_areNames_8 post x_textLength x_pairCount x_placeCount x_procedureCount x_continuationCount x_frameCount x_state x_ending x_form x_environment x_frame x_value x_applied x_argumentCount x_countedCount x_consCount x_entryCount x_outputCount x_itemCount x_text x_firsts x_rests x_placeNames x_placeValues x_placeOuters x_procedureParts x_procedurePlaces x_continuationFrames x_frameTasks x_frameForms x_frameValues x_framePlaces x_frameNexts x_arguments x_outputs x_itemKinds x_itemNumbers x_openLists (f + 1) (cd_xl T n q) s (nI i) := by
  intro f
  induction f with
  | zero =>
    intro i q s hi hq hd hm hD h1 h0
    have hqn := na_q hR hd hq
    refine br_t (nI_le (a := 4) (by omega) (by omega)) ?_
    by_cases c : T q = 1
    · exact br_t (by rw [cd_xl_e (fun z => z.2 c), zk_xE]) (h1 c)
    · have := (hb 0 q ⟨hqn, Or.inl ⟨rfl, c, hm⟩⟩).2
      refine br_f ?_ (h0 c)
      rw [cd_xl_p hqn c, zk_xE]
      exact ch_X0 (B := px) (by omega) _ this
  | succ f ih =>
    intro i q s hi hq hd hm hD h1 h0
    have hqn := na_q hR hd hq
    refine br_f (nI_ge (b := 4) (by omega) (by decide)) ?_
    by_cases c : T q = 1
    · rw [cd_xl_e (fun z => z.2 c), zv_sh (by decide) (by decide)]
      exact br_f (by decide) (br_t (by rw [zk_xE]) (h1 (Or.inl c)))
    · obtain ⟨e1, e2, e3, e4, e5, e6⟩ := cd_cell hc hb hqn c hm hD
      rw [cd_xl_p hqn c, zv_sh (by decide) (by omega)]
      have hin : vp_in (zv_c 2 (pz_AX T n 0 q)).toInt32 1400 := zv_in (by omega) (by decide)
      have hcl : (zv_c 2 (pz_AX T n 0 q)).toInt32.toNatClampNeg = pz_AX T n 0 q := zv_cl (by omega)
      refine br_t rfl ⟨hin, nm_r ((cl_R hcl).trans e5) ?_⟩
      by_cases cn : 30 ≤ T q ∧ T q ≤ 39
      · have hx : cd_xv T n q = zv_c 1 (T q) := by
          rw [cd_xv_a (by omega)]
          unfold zv_xA
          rw [if_neg (by omega), if_neg (by omega)]
        obtain ⟨k, hk⟩ : ∃ k, T q = 30 + k := ⟨T q - 30, by omega⟩
        have hbit := na_bit k (by omega)
        have hnx : pz_nx T n q = q + 1 := pz_nx_a (by omega)
        rw [hx, zk_30, zk_39]
        refine br_f (fun z => by have := (zv_lt (by decide) (by omega) (by decide) (by decide)).mp z; omega) (br_t ((zv_le (by decide) (by omega) (by decide) (by decide)).mpr (by omega)) ?_)
        rw [← zk_30, hk]
        refine nm_r hbit.1 ?_
        by_cases cs : (s &&& na_b (30 + k)) = 0
        · refine br_t cs (nm_e ⟨hin, nm_r ((cl_R hcl).trans e6) (nm_r (nI_1 i) ?_)⟩)
          rw [hnx]
          have hF := (pz_nx_ok hR hqn c).2
          rw [hnx] at hF
          refine ih (i + 1) (q + 1) _ (by omega) (by omega) (by rw [pz_Fm_dd hF]; exact hd) (pz_Fm_nmk hF) (pz_D0n_e hF hD) (fun z => h1 (Or.inr ⟨cn, by rw [hk]; exact cs, by rw [hk]; exact z⟩)) (fun z => h0 (fun w => ?_))
          rcases w with w | ⟨_, _, w⟩
          · exact c w
          · rw [hk] at w; exact z w
        · refine br_f cs (h0 (fun w => ?_))
          rcases w with w | ⟨_, w, _⟩
          · exact c w
          · rw [hk] at w; exact cs w
      · have hno : ¬ na_W T (f + 1) q s := by
          intro w
          rcases w with w | ⟨w, _⟩
          · exact c w
          · exact cn w
        obtain ⟨s', l', a1, a2, a3, a4⟩ := nv_x hR hn hT hpx hb hqn c hm cn
        rw [a3, zk_30, zk_39]
        by_cases z : zv_c s' l' < zv_c 1 30
        · exact br_t z (h0 hno)
        · refine br_f z (br_f (fun y => ?_) (h0 hno))
          rw [zv_lt a1 a2 (by decide) (by decide)] at z
          rw [zv_le a1 a2 (by decide) (by decide)] at y
          omega
theorem xs_areNames {post : Int32 → Prop} {p : Nat} (hR : pz_Rd T n) (hn : n ≤ 70) (hT : ∀ i, i < n → zv_tk (T i)) (hpx : px ≤ 1400) (hc : cd_OK T n y_firsts y_rests x_firsts x_rests) (hb : ∀ r j, pz_Nd T n r j → pz_AY T n r j < py ∧ pz_AX T n r j < px)
    (hp : p < n) (h1 : T p ≠ 1) (hC : pz_CF T p) (g1 : T p = 0 ∧ na_W T 4 (p + 1) 0 → post 1) (g0 : ¬ (T p = 0 ∧ na_W T 4 (p + 1) 0) → post 0) : wpX_areNames post (x_textLength, x_pairCount, x_placeCount, x_procedureCount, x_continuationCount, x_frameCount, x_state, x_ending, x_form, x_environment, x_frame, x_value, x_applied, x_argumentCount, x_countedCount, x_consCount, x_entryCount, x_outputCount, x_itemCount, x_text, x_firsts, x_rests, x_placeNames, x_placeValues, x_placeOuters, x_procedureParts, x_procedurePlaces, x_continuationFrames, x_frameTasks, x_frameForms, x_frameValues, x_framePlaces, x_frameNexts, x_arguments, x_outputs, x_itemKinds, x_itemNumbers, x_openLists) (cd_xv T n p) := by
  by_cases c0 : T p = 0
  · obtain ⟨d1, d2, d3, d4, d5⟩ := cd_in hR hp c0 hC
    rw [cd_xv_0 c0]
    exact ⟨5, na_X hR hn hT hpx hc hb 4 0 (p + 1) 0 rfl (by omega) (by rw [pz_dd_o c0]; omega) d2 d3 (fun z => g1 ⟨c0, z⟩) (fun z => g0 (fun w => z w.2))⟩
  · have hno : post 0 := g0 (fun w => c0 w.1)
    by_cases c2 : T p = 2
    · obtain ⟨_, b1, b2, b3, b4⟩ := hc.2 p hp c2 hC
      have a := (hb 1 p ⟨hp, Or.inr ⟨Or.inl rfl, c2⟩⟩).2
      rw [cd_xv_2 c2]
      have hcl : (zv_c 2 (pz_AX T n 1 p)).toInt32.toNatClampNeg = pz_AX T n 1 p := zv_cl (by omega)
      refine ⟨1, br_f (by decide) ?_⟩
      rw [zv_sh (by decide) (by omega)]
      refine br_t rfl ⟨zv_in (by omega) (by decide), nm_r ((cl_R hcl).trans b1) (br_f ?_ (br_f ?_ hno))⟩
      · rw [zk_30]; exact fun z => by have := (zv_lt (by decide) (by decide) (by decide) (by decide)).mp z; omega
      · rw [zk_39]; exact fun z => by have := (zv_le (by decide) (by decide) (by decide) (by decide)).mp z; omega
    · rw [cd_xv_a (by omega)]
      have key : ∀ s k, s < 16 → k < 4294967296 → s ≠ 2 → s ≠ 3 → wpX_areNames post (x_textLength, x_pairCount, x_placeCount, x_procedureCount, x_continuationCount, x_frameCount, x_state, x_ending, x_form, x_environment, x_frame, x_value, x_applied, x_argumentCount, x_countedCount, x_consCount, x_entryCount, x_outputCount, x_itemCount, x_text, x_firsts, x_rests, x_placeNames, x_placeValues, x_placeOuters, x_procedureParts, x_procedurePlaces, x_continuationFrames, x_frameTasks, x_frameForms, x_frameValues, x_framePlaces, x_frameNexts, x_arguments, x_outputs, x_itemKinds, x_itemNumbers, x_openLists) (zv_c s k) := by
        intro s k q1 q2 q3 q4
        refine ⟨1, br_f (by decide) ?_⟩
        rw [zv_sh q1 q2]
        refine br_f (fun z => q3 ((pk_lEQ (a := s) (b := 2) (by omega) (by omega)).mp z)) (br_f ?_ hno)
        rw [zk_xE]
        exact fun z => q4 ((zv_eq q1 q2 (by decide) (by decide)).mp z).1
      rcases cd_atom (hT p hp) (by omega) with ⟨a, s, k, k1, k2, _, k3, k4⟩ | ⟨k1, k2, k3⟩
      · rw [k4]; exact key s k (by omega) k1 (by omega) (by omega)
      · have ht := hT p hp
        unfold zv_tk at ht
        rw [k3]; exact key 1 _ (by decide) (by omega) (by decide) (by decide)
/-- Y's walk over the names, in a list of k -/
theorem na_Y {post : Int32 → Prop} (hR : pz_Rd T n) (hn : n ≤ 70) (hT : ∀ i, i < n → zv_tk (T i)) (hpy : py ≤ 900) (hc : cd_OK T n y_firsts y_rests x_firsts x_rests) (hb : ∀ r j, pz_Nd T n r j → pz_AY T n r j < py ∧ pz_AX T n r j < px) :
    ∀ k f q s, pz_Ln T n k q → k ≤ f → q ≤ n → 1 ≤ pz_dd T q → ¬ pz_mk T q → ¬ pz_D0 T q → (na_W T f q s → post 1) → (¬ na_W T f q s → post 0) → wY_areNames_16 post y_size y_pairs y_open y_formCount y_places y_procedures y_continuationCount y_things y_foundCount y_argumentCount y_value y_form y_wherein y_next y_working y_ending y_counts y_made y_entered y_printCount y_itemCount y_text y_firsts y_rests y_heads y_lasts y_globals y_placeNames y_placeValues y_placeNexts y_procedureForms y_procedurePlaces y_continuations y_whats y_withs y_whereins y_soFars y_afters y_found y_foundNexts y_arguments y_prints y_itemKinds y_itemNumbers y_pile (k + 1) s (cd_yl T n q) := by
  intro k
  induction k with
  | zero =>
    intro f q s hL hf hq hd hm hD h1 h0
    have hqn := na_q hR hd hq
    have c : T q = 1 := by
      by_cases z : T q = 1
      · exact z
      · exact absurd ⟨hqn, z⟩ hL
    rw [cd_yl_e hL, wY_areNames_16]
    refine ys_isPair_f (by decide) (by decide) (by decide) (br_t rfl (ys_tag (by decide) (by decide) (br_t rfl (h1 ?_))))
    cases f with
    | zero => exact c
    | succ f => exact Or.inl c
  | succ k ih =>
    intro f q s ⟨hqn, c, hL⟩ hf hq hd hm hD h1 h0
    obtain ⟨f, rfl⟩ : ∃ g, f = g + 1 := ⟨f - 1, by omega⟩
    obtain ⟨e1, e2, e3, e4, e5, e6⟩ := cd_cell hc hb hqn c hm hD
    rw [cd_yl_p hqn c, wY_areNames_16]
    refine ys_isPair_t (by omega) (br_f (by decide) (ys_firstOf (by omega) ?_))
    rw [e3]
    by_cases cn : 30 ≤ T q ∧ T q ≤ 39
    · have hy : cd_yv T n q = zv_c 4 (T q) := by
        rw [cd_yv_a (by omega)]
        unfold zv_yA
        rw [if_neg (by omega), if_neg (by omega)]
      obtain ⟨j, hj⟩ : ∃ j, T q = 30 + j := ⟨T q - 30, by omega⟩
      have hbit := na_bit j (by omega)
      have hnx : pz_nx T n q = q + 1 := pz_nx_a (by omega)
      have hF := (pz_nx_ok hR hqn c).2
      rw [hnx] at hF hL e4
      rw [hy]
      unfold wpY_isName
      refine ys_tag (by decide) (by omega) (br_t rfl ?_)
      rw [zv_lo]
      refine br_f (nI_ge (b := 40) (by omega) (by decide)) (br_f (by decide) (ys_firstOf (by omega) ?_))
      rw [e3, hy, zv_lo, hj, hbit.2.1]
      refine br_f hbit.2.2 ?_
      by_cases cs : (s &&& na_b (30 + j)) = 0
      · refine br_t cs (nm_e (ys_restOf (by omega) ?_))
        rw [e4]
        refine ih f (q + 1) _ hL (by omega) (by omega) (by rw [pz_Fm_dd hF]; exact hd) (pz_Fm_nmk hF) (pz_D0n_e hF hD) (fun z => h1 (Or.inr ⟨cn, by rw [hj]; exact cs, by rw [hj]; exact z⟩)) (fun z => h0 (fun w => ?_))
        rcases w with w | ⟨_, _, w⟩
        · exact c w
        · rw [hj] at w; exact z w
      · refine br_f cs (h0 (fun w => ?_))
        rcases w with w | ⟨_, w, _⟩
        · exact c w
        · rw [hj] at w; exact cs w
    · have hno : post 0 := h0 (by
        intro w
        rcases w with w | ⟨w, _⟩
        · exact c w
        · exact cn w)
      have hz : wY_areNames_54 post (wY_areNames_16 post y_size y_pairs y_open y_formCount y_places y_procedures y_continuationCount y_things y_foundCount y_argumentCount y_value y_form y_wherein y_next y_working y_ending y_counts y_made y_entered y_printCount y_itemCount y_text y_firsts y_rests y_heads y_lasts y_globals y_placeNames y_placeValues y_placeNexts y_procedureForms y_procedurePlaces y_continuations y_whats y_withs y_whereins y_soFars y_afters y_found y_foundNexts y_arguments y_prints y_itemKinds y_itemNumbers y_pile (k + 1)) s (zv_c 3 (pz_AY T n 0 q)) 0 y_size y_pairs y_open y_formCount y_places y_procedures y_continuationCount y_things y_foundCount y_argumentCount y_value y_form y_wherein y_next y_working y_ending y_counts y_made y_entered y_printCount y_itemCount y_text y_firsts y_rests y_heads y_lasts y_globals y_placeNames y_placeValues y_placeNexts y_procedureForms y_procedurePlaces y_continuations y_whats y_withs y_whereins y_soFars y_afters y_found y_foundNexts y_arguments y_prints y_itemKinds y_itemNumbers y_pile := br_t rfl hno
      obtain ⟨s', l', a1, a2, a3, a4⟩ := nv_y hR hn hT hpy hb hqn c hm cn
      rw [a3]
      unfold wpY_isName
      refine ys_tag a1 a2 ?_
      by_cases z : s' = 4
      · subst z
        have := a4 rfl
        refine br_t rfl ?_
        rw [zv_lo]
        exact br_t (nI_le (a := 40) (by omega) (by omega)) (br_t rfl hz)
      · exact br_f (ne_I (b := 4) z (by omega) (by decide)) (br_t rfl hz)
theorem na_Ln (hR : pz_Rd T n) : ∀ f q s, na_W T f q s → 1 ≤ pz_dd T q → q ≤ n → ∃ c, c ≤ f ∧ pz_Ln T n c q := by
  intro f
  induction f with
  | zero => intro q s h hd hq; exact ⟨0, by omega, fun z => z.2 h⟩
  | succ f ih =>
    intro q s h hd hq
    have hqn := na_q hR hd hq
    rcases h with h | ⟨h1, _, h2⟩
    · exact ⟨0, by omega, fun z => z.2 h⟩
    · have hnx : pz_nx T n q = q + 1 := pz_nx_a (by omega)
      have hF := (pz_nx_ok hR hqn (by omega)).2
      rw [hnx] at hF
      obtain ⟨c, c1, c2⟩ := ih (q + 1) _ h2 (by rw [pz_Fm_dd hF]; exact hd) (by omega)
      exact ⟨c + 1, by omega, hqn, by omega, by rw [hnx]; exact c2⟩
theorem ys_areNames {post : Int32 → Prop} {p : Nat} (hR : pz_Rd T n) (hn : n ≤ 70) (hT : ∀ i, i < n → zv_tk (T i)) (hpy : py ≤ 900) (hc : cd_OK T n y_firsts y_rests x_firsts x_rests) (hb : ∀ r j, pz_Nd T n r j → pz_AY T n r j < py ∧ pz_AX T n r j < px)
    (hp : p < n) (h1 : T p ≠ 1) (hC : pz_CF T p) (g1 : T p = 0 ∧ na_W T 4 (p + 1) 0 → post 1) (g0 : ¬ (T p = 0 ∧ na_W T 4 (p + 1) 0) → post 0) : wpY_areNames post (y_size, y_pairs, y_open, y_formCount, y_places, y_procedures, y_continuationCount, y_things, y_foundCount, y_argumentCount, y_value, y_form, y_wherein, y_next, y_working, y_ending, y_counts, y_made, y_entered, y_printCount, y_itemCount, y_text, y_firsts, y_rests, y_heads, y_lasts, y_globals, y_placeNames, y_placeValues, y_placeNexts, y_procedureForms, y_procedurePlaces, y_continuations, y_whats, y_withs, y_whereins, y_soFars, y_afters, y_found, y_foundNexts, y_arguments, y_prints, y_itemKinds, y_itemNumbers, y_pile) (cd_yv T n p) := by
  by_cases c0 : T p = 0
  · obtain ⟨d1, d2, d3, d4, d5⟩ := cd_in hR hp c0 hC
    have hd : 1 ≤ pz_dd T (p + 1) := by rw [pz_dd_o c0]; omega
    rw [cd_yv_0 c0]
    obtain ⟨k, hk, hk2⟩ := pz_Ln_ex hR _ (p + 1) rfl (by omega)
    unfold wpY_areNames
    refine ys_len_ch hpy (cd_chY hR hc hb k (p + 1) hk d2 d3) (pk_le k 4 (fun z => ?_) (fun z => g0 (fun w => ?_)))
    · exact ⟨k + 1, na_Y hR hn hT hpy hc hb k 4 (p + 1) 0 hk z (by omega) hd d2 d3 (fun z => g1 ⟨c0, z⟩) (fun z => g0 (fun w => z w.2))⟩
    · obtain ⟨c, c1, c2⟩ := na_Ln hR _ _ _ w.2 hd (by omega)
      have := pz_Ln_u _ _ _ hk c2
      omega
  · have hno : post 0 := g0 (fun w => c0 w.1)
    by_cases c2 : T p = 2
    · obtain ⟨⟨b1, b2, b3, b4⟩, _⟩ := hc.2 p hp c2 hC
      have a := (hb 1 p ⟨hp, Or.inr ⟨Or.inl rfl, c2⟩⟩).1
      have a' := (hb 2 p ⟨hp, Or.inr ⟨Or.inr rfl, c2⟩⟩).1
      rw [cd_yv_2 c2]
      have hch : ch_N y_rests (zv_c 3) (zv_c 2 0) py 2 (zv_c 3 (pz_AY T n 1 p)) := ⟨_, a, rfl, _, a', b2, b4⟩
      unfold wpY_areNames
      refine ys_len_ch hpy hch (br_t (by decide) ⟨1, ?_⟩)
      rw [wY_areNames_16]
      refine ys_isPair_t (by omega) (br_f (by decide) (ys_firstOf (by omega) ?_))
      rw [b1]
      unfold wpY_isName
      refine ys_tag (by decide) (by decide) (br_t rfl ?_)
      rw [zv_lo]
      exact br_t (by decide) (br_t rfl (br_t rfl hno))
    · rw [cd_yv_a (by omega)]
      have key : ∀ s k, s < 16 → k < 4294967296 → s ≠ 2 → s ≠ 3 → wpY_areNames post (y_size, y_pairs, y_open, y_formCount, y_places, y_procedures, y_continuationCount, y_things, y_foundCount, y_argumentCount, y_value, y_form, y_wherein, y_next, y_working, y_ending, y_counts, y_made, y_entered, y_printCount, y_itemCount, y_text, y_firsts, y_rests, y_heads, y_lasts, y_globals, y_placeNames, y_placeValues, y_placeNexts, y_procedureForms, y_procedurePlaces, y_continuations, y_whats, y_withs, y_whereins, y_soFars, y_afters, y_found, y_foundNexts, y_arguments, y_prints, y_itemKinds, y_itemNumbers, y_pile) (zv_c s k) := by
        intro s k q1 q2 q3 q4
        unfold wpY_areNames
        refine ys_len (S := fun w => w = zv_c s k) hpy (fun w hw => ⟨s, k, q1, q2, hw, fun z => absurd z q4, fun z => absurd z q3⟩) rfl (fun m hm => ?_) (fun _ => ?_)
        · cases m with
          | zero => exact absurd ((zv_eq q1 q2 (by decide) (by decide)).mp hm).1 q3
          | succ m =>
            obtain ⟨c, r1, r2, _⟩ := hm
            exact absurd ((zv_eq q1 q2 (by decide) (by omega)).mp r2).1 q4
        · refine br_t (by decide) ⟨1, ?_⟩
          rw [wY_areNames_16]
          exact ys_isPair_f q1 q4 q2 (br_t rfl (ys_tag q1 q2 (br_f (ne_I (b := 2) q3 (by omega) (by decide)) hno)))
      rcases cd_atom (hT p hp) (by omega) with ⟨a, s, k, k1, k2, _, k3, k4⟩ | ⟨k1, k2, k3⟩
      · rw [k3]; exact key a k (by omega) k1 (by omega) (by omega)
      · have ht := hT p hp
        unfold zv_tk at ht
        rw [k2]; exact key 4 _ (by decide) (by omega) (by decide) (by decide)
end
end
section
/-! words -/
def sh_OK (T : Nat → Nat) (w k p : Nat) : Prop := (w = 41 ∧ (k = 2 ∨ k = 3)) ∨ (w = 42 ∧ 2 ≤ k ∧ T p = 0 ∧ na_W T 4 (p + 1) 0) ∨ ((w = 43 ∨ w = 44) ∧ k = 2 ∧ 30 ≤ T p ∧ T p ≤ 39) ∨ (w = 45 ∧ 1 ≤ k)
def sh_z (T : Nat → Nat) (k p : Nat) : Int32 := if k = 2 ∧ 30 ≤ T p ∧ T p ≤ 39 then 1 else 0
section
variable {x_textLength : Int32} {x_pairCount : Int32} {x_placeCount : Int32} {x_procedureCount : Int32} {x_continuationCount : Int32} {x_frameCount : Int32} {x_state : Int32} {x_ending : Int32} {x_form : Int64} {x_environment : Int32} {x_frame : Int32} {x_value : Int64} {x_applied : Int64} {x_argumentCount : Int32} {x_countedCount : Int32} {x_consCount : Int32} {x_entryCount : Int32} {x_outputCount : Int32} {x_itemCount : Int32} {x_text : Nat → Int32} {x_firsts : Nat → Int64} {x_rests : Nat → Int64} {x_placeNames : Nat → Int32} {x_placeValues : Nat → Int64} {x_placeOuters : Nat → Int32} {x_procedureParts : Nat → Int64} {x_procedurePlaces : Nat → Int32} {x_continuationFrames : Nat → Int32} {x_frameTasks : Nat → Int32} {x_frameForms : Nat → Int64} {x_frameValues : Nat → Int64} {x_framePlaces : Nat → Int32} {x_frameNexts : Nat → Int32} {x_arguments : Nat → Int64} {x_outputs : Nat → Int32} {x_itemKinds : Nat → Int32} {x_itemNumbers : Nat → Int32} {x_openLists : Nat → Int64}
variable {y_size : Int32} {y_pairs : Int32} {y_open : Int32} {y_formCount : Int32} {y_places : Int32} {y_procedures : Int32} {y_continuationCount : Int32} {y_things : Int32} {y_foundCount : Int32} {y_argumentCount : Int32} {y_value : Int64} {y_form : Int64} {y_wherein : Int32} {y_next : Int32} {y_working : Int32} {y_ending : Int32} {y_counts : Int32} {y_made : Int32} {y_entered : Int32} {y_printCount : Int32} {y_itemCount : Int32} {y_text : Nat → Int32} {y_firsts : Nat → Int64} {y_rests : Nat → Int64} {y_heads : Nat → Int32} {y_lasts : Nat → Int32} {y_globals : Nat → Int64} {y_placeNames : Nat → Int32} {y_placeValues : Nat → Int64} {y_placeNexts : Nat → Int32} {y_procedureForms : Nat → Int64} {y_procedurePlaces : Nat → Int32} {y_continuations : Nat → Int32} {y_whats : Nat → Int32} {y_withs : Nat → Int64} {y_whereins : Nat → Int32} {y_soFars : Nat → Int32} {y_afters : Nat → Int32} {y_found : Nat → Int64} {y_foundNexts : Nat → Int32} {y_arguments : Nat → Int64} {y_prints : Nat → Int32} {y_itemKinds : Nat → Int32} {y_itemNumbers : Nat → Int32} {y_pile : Nat → Int64}
variable {T : Nat → Nat} {n px py pl np nc nf fo co cn et pc : Nat} {M : Nat → Nat → Prop} {G : Nat → Nat}
theorem xs_shape {post : Int32 → Prop} {w k p : Nat} (hR : pz_Rd T n) (hn : n ≤ 70) (hT : ∀ i, i < n → zv_tk (T i)) (hpx : px ≤ 1400) (hc : cd_OK T n y_firsts y_rests x_firsts x_rests) (hb : ∀ r j, pz_Nd T n r j → pz_AY T n r j < py ∧ pz_AX T n r j < px)
    (hk : pz_Ln T n k p) (hl : ls_P T n p) (h1 : 41 ≤ w) (h2 : w ≤ 45) (g1 : sh_OK T w k p → post 1) (g0 : ¬ sh_OK T w k p → post 0) : wpX_hasShape post (x_textLength, nI px, x_placeCount, x_procedureCount, x_continuationCount, x_frameCount, x_state, x_ending, x_form, x_environment, x_frame, x_value, x_applied, x_argumentCount, x_countedCount, x_consCount, x_entryCount, x_outputCount, x_itemCount, x_text, x_firsts, x_rests, x_placeNames, x_placeValues, x_placeOuters, x_procedureParts, x_procedurePlaces, x_continuationFrames, x_frameTasks, x_frameForms, x_frameValues, x_framePlaces, x_frameNexts, x_arguments, x_outputs, x_itemKinds, x_itemNumbers, x_openLists) (nI w) (cd_xl T n p) := by
  have hkb : k < 2 ^ 31 := by
    obtain ⟨k', a1, a2⟩ := pz_Ln_ex hR _ p rfl hl.1
    have := pz_Ln_u _ _ _ hk a1
    omega
  have hcell : 1 ≤ k → p < n ∧ T p ≠ 1 := by
    intro z
    cases k with
    | zero => omega
    | succ k => exact ⟨hk.1, hk.2.1⟩
  unfold wpX_hasShape
  refine xs_len_ch hpx (cd_chX hR hc hb k p hk hl.2.2 (pz_CL_nD0 hl.2.1)) ?_
  have hw : w = 41 ∨ w = 42 ∨ (w = 43 ∨ w = 44) ∨ w = 45 := by omega
  rcases hw with rfl | rfl | hw | rfl
  · refine br_f (by decide) (br_f (by decide) (br_f (by decide) (br_t rfl (pk_eq k 2 (fun z => g1 (Or.inl ⟨rfl, Or.inl z⟩)) (fun z => pk_eq k 3 (fun y => g1 (Or.inl ⟨rfl, Or.inr y⟩)) (fun y => g0 ?_))))))
    unfold sh_OK; omega
  · refine br_f (by decide) (br_f (by decide) (br_f (by decide) (br_f (by decide) (br_t rfl (pk_lt k 2 (fun z => g0 ?_) (fun z => ?_))))))
    · unfold sh_OK; omega
    · obtain ⟨p1, p2⟩ := hcell (by omega)
      obtain ⟨e1, e2, e3, e4, e5, e6⟩ := cd_cell hc hb p1 p2 hl.2.2 (pz_CL_nD0 hl.2.1)
      rw [cd_xl_p p1 p2]
      refine ⟨zv_in (by omega) (by decide), ?_⟩
      rw [zv_cl (by omega), e5]
      exact xs_areNames hR hn hT hpx hc hb p1 p2 (ls_CF hl) (fun y => br_f (by decide) (g1 (Or.inr (Or.inl ⟨rfl, z, y.1, y.2⟩)))) (fun y => br_t rfl (g0 (fun v => by
        rcases v with v | v | v | v
        · omega
        · exact y v.2.2
        · omega
        · omega)))
  · have h100 : wX_hasShape_100 post (cd_xl T n p) (nI k) x_textLength (nI px) x_placeCount x_procedureCount x_continuationCount x_frameCount x_state x_ending x_form x_environment x_frame x_value x_applied x_argumentCount x_countedCount x_consCount x_entryCount x_outputCount x_itemCount x_text x_firsts x_rests x_placeNames x_placeValues x_placeOuters x_procedureParts x_procedurePlaces x_continuationFrames x_frameTasks x_frameForms x_frameValues x_framePlaces x_frameNexts x_arguments x_outputs x_itemKinds x_itemNumbers x_openLists := by
      refine pk_eq k 2 (fun z => ?_) (fun z => g0 (by unfold sh_OK; omega))
      obtain ⟨p1, p2⟩ := hcell (by omega)
      obtain ⟨e1, e2, e3, e4, e5, e6⟩ := cd_cell hc hb p1 p2 hl.2.2 (pz_CL_nD0 hl.2.1)
      have hin : vp_in (zv_c 2 (pz_AX T n 0 p)).toInt32 1400 := zv_in (by omega) (by decide)
      rw [cd_xl_p p1 p2, zv_cl (by omega), e5]
      refine ⟨hin, ?_⟩
      by_cases cn : 30 ≤ T p ∧ T p ≤ 39
      · have hx : cd_xv T n p = zv_c 1 (T p) := by
          rw [cd_xv_a (by omega)]
          unfold zv_xA
          rw [if_neg (by omega), if_neg (by omega)]
        rw [hx, zk_30, zk_39]
        exact br_f (fun z => by have := (zv_lt (by decide) (by omega) (by decide) (by decide)).mp z; omega) ⟨hin, br_f (fun z => by have := (zv_lt (by decide) (by decide) (by decide) (by omega)).mp z; omega) (g1 (Or.inr (Or.inr (Or.inl ⟨hw, z, cn.1, cn.2⟩))))⟩
      · have hno : post 0 := g0 (by unfold sh_OK; omega)
        obtain ⟨s', l', a1, a2, a3, a4⟩ := nv_x hR hn hT hpx hb p1 p2 hl.2.2 cn
        rw [a3, zk_30, zk_39]
        by_cases y : zv_c s' l' < zv_c 1 30
        · exact br_t y hno
        · refine br_f y ⟨hin, br_t ?_ hno⟩
          rw [zv_lt a1 a2 (by decide) (by decide)] at y
          rw [zv_lt (by decide) (by decide) a1 a2]
          omega
    rcases hw with rfl | rfl
    · exact br_f (by decide) (br_f (by decide) (br_f (by decide) (br_f (by decide) (br_f (by decide) (br_t rfl h100)))))
    · exact br_f (by decide) (br_f (by decide) (br_f (by decide) (br_f (by decide) (br_f (by decide) (br_f (by decide) (br_t rfl h100))))))
  · refine br_f (by decide) (br_t (by decide) (pk_lt k 1 (fun z => g0 ?_) (fun z => g1 (Or.inr (Or.inr (Or.inr ⟨rfl, z⟩))))))
    unfold sh_OK; omega
theorem ys_sp {post : SY → Prop} {w k p : Nat} (hR : pz_Rd T n) (hn : n ≤ 70) (hT : ∀ i, i < n → zv_tk (T i)) (hpy : py ≤ 900) (hc : cd_OK T n y_firsts y_rests x_firsts x_rests) (hb : ∀ r j, pz_Nd T n r j → pz_AY T n r j < py ∧ pz_AX T n r j < px)
    (hk : pz_Ln T n k p) (hl : ls_P T n p) (h : wY_workSpecial_30 post (nI w) (cd_yl T n p) (nI k) (sh_z T k p) y_size y_pairs y_open y_formCount y_places y_procedures y_continuationCount y_things y_foundCount y_argumentCount y_value y_form y_wherein y_next y_working y_ending y_counts y_made y_entered y_printCount y_itemCount y_text y_firsts y_rests y_heads y_lasts y_globals y_placeNames y_placeValues y_placeNexts y_procedureForms y_procedurePlaces y_continuations y_whats y_withs y_whereins y_soFars y_afters y_found y_foundNexts y_arguments y_prints y_itemKinds y_itemNumbers y_pile) : wpY_workSpecial post (y_size, y_pairs, y_open, y_formCount, y_places, y_procedures, y_continuationCount, y_things, y_foundCount, y_argumentCount, y_value, y_form, y_wherein, y_next, y_working, y_ending, y_counts, y_made, y_entered, y_printCount, y_itemCount, y_text, y_firsts, y_rests, y_heads, y_lasts, y_globals, y_placeNames, y_placeValues, y_placeNexts, y_procedureForms, y_procedurePlaces, y_continuations, y_whats, y_withs, y_whereins, y_soFars, y_afters, y_found, y_foundNexts, y_arguments, y_prints, y_itemKinds, y_itemNumbers, y_pile) (nI w) (cd_yl T n p) := by
  have hkb : k < 2 ^ 31 := by
    obtain ⟨k', a1, a2⟩ := pz_Ln_ex hR _ p rfl hl.1
    have := pz_Ln_u _ _ _ hk a1
    omega
  unfold wpY_workSpecial
  refine ys_len_ch hpy (cd_chY hR hc hb k p hk hl.2.2 (pz_CL_nD0 hl.2.1)) (pk_eq k 2 (fun z => ?_) (fun z => ?_))
  · subst z
    obtain ⟨p1, p2, _⟩ := id hk
    obtain ⟨e1, e2, e3, e4, e5, e6⟩ := cd_cell hc hb p1 p2 hl.2.2 (pz_CL_nD0 hl.2.1)
    have hq := cd_yl_p p1 p2
    rw [hq] at h ⊢
    refine ys_firstOf (by omega) ?_
    rw [e3]
    refine ys_isName hR hn hT hpy hb p1 p2 hl.2.2 (fun cn => br_f (by decide) ?_) (fun cn => br_t rfl ?_)
    · rw [sh_z, if_pos ⟨rfl, cn⟩] at h
      exact h
    · rw [sh_z, if_neg (fun y => cn y.2)] at h
      exact h
  · rw [sh_z, if_neg (fun y => z y.1)] at h
    exact h
theorem xs_toWord {u' : SX} {b w : Nat} (hc : co < 600) (hpx : px ≤ 1400) (q2 : b < px) (q4 : x_firsts b = zv_c 1 w) (h1 : 40 ≤ w) (h2 : w ≤ 45)
    (hw : ∀ post : SX → Prop, post u' → wpX_workOutWord post (x_textLength, x_pairCount, x_placeCount, x_procedureCount, x_continuationCount, x_frameCount, x_state, x_ending, zv_c 2 b, x_environment, x_frame, x_value, x_applied, x_argumentCount, nI (co + 1), x_consCount, x_entryCount, x_outputCount, x_itemCount, x_text, x_firsts, x_rests, x_placeNames, x_placeValues, x_placeOuters, x_procedureParts, x_procedurePlaces, x_continuationFrames, x_frameTasks, x_frameForms, x_frameValues, x_framePlaces, x_frameNexts, x_arguments, x_outputs, x_itemKinds, x_itemNumbers, x_openLists) (nI w) (x_rests b)) : ∀ post : SX → Prop, post u' → wpX_workOut post (x_textLength, x_pairCount, x_placeCount, x_procedureCount, x_continuationCount, x_frameCount, x_state, x_ending, zv_c 2 b, x_environment, x_frame, x_value, x_applied, x_argumentCount, nI co, x_consCount, x_entryCount, x_outputCount, x_itemCount, x_text, x_firsts, x_rests, x_placeNames, x_placeValues, x_placeOuters, x_procedureParts, x_procedurePlaces, x_continuationFrames, x_frameTasks, x_frameForms, x_frameValues, x_framePlaces, x_frameNexts, x_arguments, x_outputs, x_itemKinds, x_itemNumbers, x_openLists) := by
  intro post hp
  have hin : vp_in (zv_c 2 b).toInt32 1400 := zv_in (by omega) (by decide)
  have hcl : (zv_c 2 b).toInt32.toNatClampNeg = b := zv_cl (by omega)
  unfold wpX_workOut
  refine xs_countOne hc (br_f (by decide) (xs_tagOf (by decide) (by omega) (br_f (by decide) (br_f (by decide) (br_t rfl ⟨hin, ?_⟩)))))
  rw [hcl, q4, zk_40, zk_45, zv_lo 1 w]
  refine br_f (fun z => by have := (zv_lt (by decide) (by omega) (by decide) (by decide)).mp z; omega) ⟨hin, br_f (fun z => by have := (zv_lt (by decide) (by decide) (by decide) (by omega)).mp z; omega) ⟨hin, hin, hw _ ?_⟩⟩
  obtain ⟨x_textLength, x_pairCount, x_placeCount, x_procedureCount, x_continuationCount, x_frameCount, x_state, x_ending, x_form, x_environment, x_frame, x_value, x_applied, x_argumentCount, x_countedCount, x_consCount, x_entryCount, x_outputCount, x_itemCount, x_text, x_firsts, x_rests, x_placeNames, x_placeValues, x_placeOuters, x_procedureParts, x_procedurePlaces, x_continuationFrames, x_frameTasks, x_frameForms, x_frameValues, x_framePlaces, x_frameNexts, x_arguments, x_outputs, x_itemKinds, x_itemNumbers, x_openLists⟩ := u'
  exact hp
theorem ys_toSpecial {v' : SY} {a w : Nat} (hc : co < 600) (hy : y_ending = -1000000003) (hpy : py ≤ 900) (q1 : a < py) (q3 : y_firsts a = zv_c 4 w) (h1 : 40 ≤ w) (h2 : w ≤ 45)
    (hw : ∀ post : SY → Prop, post v' → wpY_workSpecial post (y_size, y_pairs, y_open, y_formCount, y_places, y_procedures, y_continuationCount, y_things, y_foundCount, y_argumentCount, y_value, zv_c 3 a, y_wherein, y_next, y_working, y_ending, nI (co + 1), y_made, y_entered, y_printCount, y_itemCount, y_text, y_firsts, y_rests, y_heads, y_lasts, y_globals, y_placeNames, y_placeValues, y_placeNexts, y_procedureForms, y_procedurePlaces, y_continuations, y_whats, y_withs, y_whereins, y_soFars, y_afters, y_found, y_foundNexts, y_arguments, y_prints, y_itemKinds, y_itemNumbers, y_pile) (nI w) (y_rests a)) : ∀ post : SY → Prop, post v' → wpY_work post (y_size, y_pairs, y_open, y_formCount, y_places, y_procedures, y_continuationCount, y_things, y_foundCount, y_argumentCount, y_value, zv_c 3 a, y_wherein, y_next, y_working, y_ending, nI co, y_made, y_entered, y_printCount, y_itemCount, y_text, y_firsts, y_rests, y_heads, y_lasts, y_globals, y_placeNames, y_placeValues, y_placeNexts, y_procedureForms, y_procedurePlaces, y_continuations, y_whats, y_withs, y_whereins, y_soFars, y_afters, y_found, y_foundNexts, y_arguments, y_prints, y_itemKinds, y_itemNumbers, y_pile) := by
  intro post hp
  subst hy
  unfold wpY_work
  refine ys_count hc (br_t rfl (ys_tag (by decide) (by omega) (br_t (by decide) (br_f (by decide) (br_f (by decide) (br_t rfl (ys_firstOf (by omega) (ys_restOf (by omega) ?_))))))))
  rw [q3]
  refine ys_tag (by decide) (by omega) (br_t rfl ?_)
  rw [zv_lo]
  refine br_f (nI_nlt (b := 40) (by omega) (by omega)) (br_f (nI_ge (b := 50) (by omega) (by decide)) (hw _ ?_))
  obtain ⟨y_size, y_pairs, y_open, y_formCount, y_places, y_procedures, y_continuationCount, y_things, y_foundCount, y_argumentCount, y_value, y_form, y_wherein, y_next, y_working, y_ending, y_counts, y_made, y_entered, y_printCount, y_itemCount, y_text, y_firsts, y_rests, y_heads, y_lasts, y_globals, y_placeNames, y_placeValues, y_placeNexts, y_procedureForms, y_procedurePlaces, y_continuations, y_whats, y_withs, y_whereins, y_soFars, y_afters, y_found, y_foundNexts, y_arguments, y_prints, y_itemKinds, y_itemNumbers, y_pile⟩ := v'
  exact hp
end
end
section
/-! words: both sides -/
section
variable {x_textLength : Int32} {x_pairCount : Int32} {x_placeCount : Int32} {x_procedureCount : Int32} {x_continuationCount : Int32} {x_frameCount : Int32} {x_state : Int32} {x_ending : Int32} {x_form : Int64} {x_environment : Int32} {x_frame : Int32} {x_value : Int64} {x_applied : Int64} {x_argumentCount : Int32} {x_countedCount : Int32} {x_consCount : Int32} {x_entryCount : Int32} {x_outputCount : Int32} {x_itemCount : Int32} {x_text : Nat → Int32} {x_firsts : Nat → Int64} {x_rests : Nat → Int64} {x_placeNames : Nat → Int32} {x_placeValues : Nat → Int64} {x_placeOuters : Nat → Int32} {x_procedureParts : Nat → Int64} {x_procedurePlaces : Nat → Int32} {x_continuationFrames : Nat → Int32} {x_frameTasks : Nat → Int32} {x_frameForms : Nat → Int64} {x_frameValues : Nat → Int64} {x_framePlaces : Nat → Int32} {x_frameNexts : Nat → Int32} {x_arguments : Nat → Int64} {x_outputs : Nat → Int32} {x_itemKinds : Nat → Int32} {x_itemNumbers : Nat → Int32} {x_openLists : Nat → Int64}
variable {y_size : Int32} {y_pairs : Int32} {y_open : Int32} {y_formCount : Int32} {y_places : Int32} {y_procedures : Int32} {y_continuationCount : Int32} {y_things : Int32} {y_foundCount : Int32} {y_argumentCount : Int32} {y_value : Int64} {y_form : Int64} {y_wherein : Int32} {y_next : Int32} {y_working : Int32} {y_ending : Int32} {y_counts : Int32} {y_made : Int32} {y_entered : Int32} {y_printCount : Int32} {y_itemCount : Int32} {y_text : Nat → Int32} {y_firsts : Nat → Int64} {y_rests : Nat → Int64} {y_heads : Nat → Int32} {y_lasts : Nat → Int32} {y_globals : Nat → Int64} {y_placeNames : Nat → Int32} {y_placeValues : Nat → Int64} {y_placeNexts : Nat → Int32} {y_procedureForms : Nat → Int64} {y_procedurePlaces : Nat → Int32} {y_continuations : Nat → Int32} {y_whats : Nat → Int32} {y_withs : Nat → Int64} {y_whereins : Nat → Int32} {y_soFars : Nat → Int32} {y_afters : Nat → Int32} {y_found : Nat → Int64} {y_foundNexts : Nat → Int32} {y_arguments : Nat → Int64} {y_prints : Nat → Int32} {y_itemKinds : Nat → Int32} {y_itemNumbers : Nat → Int32} {y_pile : Nat → Int64}
variable {T : Nat → Nat} {n px py pl np nc nf fo co cn et pc : Nat} {M : Nat → Nat → Prop} {G : Nat → Nat}
/-- otherwise than it must be -/
theorem yw_syn {post : SY → Prop} {w k p : Nat} (hR : pz_Rd T n) (hn : n ≤ 70) (hT : ∀ i, i < n → zv_tk (T i)) (hpy : py ≤ 900) (hc : cd_OK T n y_firsts y_rests x_firsts x_rests) (hb : ∀ r j, pz_Nd T n r j → pz_AY T n r j < py ∧ pz_AX T n r j < px)
    (hk : pz_Ln T n k p) (hl : ls_P T n p) (h1 : 41 ≤ w) (h2 : w ≤ 45) (hs : ¬ sh_OK T w k p) (hp : post (y_size, y_pairs, y_open, y_formCount, y_places, y_procedures, y_continuationCount, y_things, y_foundCount, y_argumentCount, y_value, y_form, y_wherein, y_next, y_working, 4, y_counts, y_made, y_entered, y_printCount, y_itemCount, y_text, y_firsts, y_rests, y_heads, y_lasts, y_globals, y_placeNames, y_placeValues, y_placeNexts, y_procedureForms, y_procedurePlaces, y_continuations, y_whats, y_withs, y_whereins, y_soFars, y_afters, y_found, y_foundNexts, y_arguments, y_prints, y_itemKinds, y_itemNumbers, y_pile)) : wpY_workSpecial post (y_size, y_pairs, y_open, y_formCount, y_places, y_procedures, y_continuationCount, y_things, y_foundCount, y_argumentCount, y_value, y_form, y_wherein, y_next, y_working, y_ending, y_counts, y_made, y_entered, y_printCount, y_itemCount, y_text, y_firsts, y_rests, y_heads, y_lasts, y_globals, y_placeNames, y_placeValues, y_placeNexts, y_procedureForms, y_procedurePlaces, y_continuations, y_whats, y_withs, y_whereins, y_soFars, y_afters, y_found, y_foundNexts, y_arguments, y_prints, y_itemKinds, y_itemNumbers, y_pile) (nI w) (cd_yl T n p) := by
  have hkb : k < 2 ^ 31 := by
    obtain ⟨k', a1, a2⟩ := pz_Ln_ex hR _ p rfl hl.1
    have := pz_Ln_u _ _ _ hk a1
    omega
  refine ys_sp hR hn hT hpy hc hb hk hl ?_
  have hw : w = 41 ∨ w = 42 ∨ (w = 43 ∨ w = 44) ∨ w = 45 := by omega
  rcases hw with rfl | rfl | hw | rfl
  · have a : k ≠ 2 ∧ k ≠ 3 := ⟨fun z => hs (Or.inl ⟨rfl, Or.inl z⟩), fun z => hs (Or.inl ⟨rfl, Or.inr z⟩)⟩
    exact br_f (by decide) (br_t rfl (br_f (ne_I (b := 2) a.1 hkb (by decide)) (br_f (ne_I (b := 3) a.2 hkb (by decide)) (br_f (by decide) (br_f (by decide) (br_f (by decide) (br_f (by decide) hp)))))))
  · have h178 : wY_workSpecial_178 post (nI 42) (cd_yl T n p) (nI k) (sh_z T k p) y_size y_pairs y_open y_formCount y_places y_procedures y_continuationCount y_things y_foundCount y_argumentCount y_value y_form y_wherein y_next y_working y_ending y_counts y_made y_entered y_printCount y_itemCount y_text y_firsts y_rests y_heads y_lasts y_globals y_placeNames y_placeValues y_placeNexts y_procedureForms y_procedurePlaces y_continuations y_whats y_withs y_whereins y_soFars y_afters y_found y_foundNexts y_arguments y_prints y_itemKinds y_itemNumbers y_pile := br_f (by decide) (br_f (by decide) (br_f (by decide) hp))
    refine br_f (by decide) (br_f (by decide) (br_t rfl (pk_le k 1 (fun _ => h178) (fun z => ?_))))
    obtain ⟨p1, p2⟩ : p < n ∧ T p ≠ 1 := by
      cases k with
      | zero => omega
      | succ k => exact ⟨hk.1, hk.2.1⟩
    obtain ⟨e1, e2, e3, e4, e5, e6⟩ := cd_cell hc hb p1 p2 hl.2.2 (pz_CL_nD0 hl.2.1)
    rw [cd_yl_p p1 p2] at h178 ⊢
    refine ys_firstOf (by omega) ?_
    rw [e3]
    exact ys_areNames hR hn hT hpy hc hb p1 p2 (ls_CF hl) (fun y => absurd (Or.inr (Or.inl ⟨rfl, z, y.1, y.2⟩)) hs) (fun y => br_t rfl h178)
  · have hz : sh_z T k p = 0 := if_neg (fun z => hs (Or.inr (Or.inr (Or.inl ⟨hw, z.1, z.2.1, z.2.2⟩))))
    rw [hz]
    rcases hw with rfl | rfl
    · exact br_f (by decide) (br_f (by decide) (br_f (by decide) (br_t rfl (br_t rfl (br_f (by decide) hp)))))
    · exact br_f (by decide) (br_f (by decide) (br_f (by decide) (br_f (by decide) (br_t rfl (br_t rfl (br_f (by decide) hp))))))
  · have a : k = 0 := by
      by_cases z : k = 0
      · exact z
      · exact absurd (Or.inr (Or.inr (Or.inr ⟨rfl, by omega⟩))) hs
    subst a
    exact br_f (by decide) (br_f (by decide) (br_f (by decide) (br_f (by decide) (br_f (by decide) (br_t rfl (br_t (by decide) hp))))))
theorem st_word {a b w p : Nat} (hr : sm_R T n M G px py pl np nc nf fo (co + 1) cn et pc (x_textLength, x_pairCount, x_placeCount, x_procedureCount, x_continuationCount, x_frameCount, x_state, x_ending, zv_c 2 b, x_environment, x_frame, x_value, x_applied, x_argumentCount, nI (co + 1), x_consCount, x_entryCount, x_outputCount, x_itemCount, x_text, x_firsts, x_rests, x_placeNames, x_placeValues, x_placeOuters, x_procedureParts, x_procedurePlaces, x_continuationFrames, x_frameTasks, x_frameForms, x_frameValues, x_framePlaces, x_frameNexts, x_arguments, x_outputs, x_itemKinds, x_itemNumbers, x_openLists) (y_size, y_pairs, y_open, y_formCount, y_places, y_procedures, y_continuationCount, y_things, y_foundCount, y_argumentCount, y_value, zv_c 3 a, y_wherein, y_next, y_working, y_ending, nI (co + 1), y_made, y_entered, y_printCount, y_itemCount, y_text, y_firsts, y_rests, y_heads, y_lasts, y_globals, y_placeNames, y_placeValues, y_placeNexts, y_procedureForms, y_procedurePlaces, y_continuations, y_whats, y_withs, y_whereins, y_soFars, y_afters, y_found, y_foundNexts, y_arguments, y_prints, y_itemKinds, y_itemNumbers, y_pile)) (hc : co < 600) (hnp : np ≤ co) (hb : fo ≤ co + 1 ∧ nf ≤ co + 1) (hx : x_ending = -1) (hs : x_state = 0) (hy : y_ending = -1000000003) (hf : x_frame = y_next) (hf2 : fm_N nf y_next)
    (he : en_R pl y_wherein x_environment) (q1 : a < py) (q2 : b < px) (q3 : y_firsts a = zv_c 4 w) (q4 : x_firsts b = zv_c 1 w) (h1 : 40 < w) (h2 : w ≤ 45) (hl : ls_P T n p) (q5 : y_rests a = cd_yl T n p) (q6 : x_rests b = cd_xl T n p) :
    ∃ u' v', (∀ post : SX → Prop, post u' → wpX_workOut post (x_textLength, x_pairCount, x_placeCount, x_procedureCount, x_continuationCount, x_frameCount, x_state, x_ending, zv_c 2 b, x_environment, x_frame, x_value, x_applied, x_argumentCount, nI co, x_consCount, x_entryCount, x_outputCount, x_itemCount, x_text, x_firsts, x_rests, x_placeNames, x_placeValues, x_placeOuters, x_procedureParts, x_procedurePlaces, x_continuationFrames, x_frameTasks, x_frameForms, x_frameValues, x_framePlaces, x_frameNexts, x_arguments, x_outputs, x_itemKinds, x_itemNumbers, x_openLists)) ∧ (∀ post : SY → Prop, post v' → wpY_work post (y_size, y_pairs, y_open, y_formCount, y_places, y_procedures, y_continuationCount, y_things, y_foundCount, y_argumentCount, y_value, zv_c 3 a, y_wherein, y_next, y_working, y_ending, nI co, y_made, y_entered, y_printCount, y_itemCount, y_text, y_firsts, y_rests, y_heads, y_lasts, y_globals, y_placeNames, y_placeValues, y_placeNexts, y_procedureForms, y_procedurePlaces, y_continuations, y_whats, y_withs, y_whereins, y_soFars, y_afters, y_found, y_foundNexts, y_arguments, y_prints, y_itemKinds, y_itemNumbers, y_pile)) ∧ sm_to T n (co + 1) u' v' := by
  have hr' := hr
  obtain ⟨a0, ⟨n1, n2, n3, n4, n5, n6, n7, n8, n9, n10, n11⟩, ⟨m1, m2, m3, m4, m5, m6, m7, m8, m9, m10, m11⟩, b0, c1, c2, c3, c4, c5, c6, c7, c8⟩ := hr
  subst hx hy hs n2 n4 n6 m4 m6
  have hR := a0.1
  have hn := a0.2.1
  have hT := a0.2.2.1
  have hbb := c2.1.2.2.2.2.2
  have hpx : px ≤ 1400 := by omega
  have hpy : py ≤ 900 := by omega
  obtain ⟨k, hk, hkn⟩ := pz_Ln_ex hR _ p rfl hl.1
  have hkb : k < 2 ^ 31 := by omega
  by_cases sh : sh_OK T w k p
  · obtain ⟨p1, p2⟩ : p < n ∧ T p ≠ 1 := by
      cases k with
      | zero => unfold sh_OK at sh; omega
      | succ k => exact ⟨hk.1, hk.2.1⟩
    obtain ⟨e1, e2, e3, e4, e5, e6⟩ := cd_cell c1 hbb p1 p2 hl.2.2 (pz_CL_nD0 hl.2.1)
    have hin : vp_in (zv_c 2 (pz_AX T n 0 p)).toInt32 1400 := zv_in (by omega) (by decide)
    have hcl : (zv_c 2 (pz_AX T n 0 p)).toInt32.toNatClampNeg = pz_AX T n 0 p := zv_cl (by omega)
    have hpl := cd_xl_p (T := T) (n := n) p1 p2
    have hql := cd_yl_p (T := T) (n := n) p1 p2
    have hls := ls_nx hR hl p1 p2
    have hcan := id sh
    rcases sh with ⟨rfl, s1⟩ | ⟨rfl, s1, s2, s3⟩ | ⟨hw, rfl, s1, s2⟩ | ⟨rfl, s1⟩
    · -- if
      obtain ⟨r1, r2⟩ : pz_nx T n p < n ∧ T (pz_nx T n p) ≠ 1 := by
        cases k with
        | zero => omega
        | succ k =>
          cases k with
          | zero => omega
          | succ k => exact ⟨hk.2.2.1, hk.2.2.2.1⟩
      have hk9 := rk_push (w := 1) (ey := y_wherein) (ex := x_environment) (sy := 0) (sx := zv_c 3 0) (f := y_next) hr' he hf2 (Or.inl ⟨1, pz_nx T n p, by decide, rfl, hls, r1, r2, rfl, rfl⟩)
      refine ⟨(x_textLength, nI px, x_placeCount, nI np, x_continuationCount, nI (nf + 1), 0, -1, cd_xv T n p, x_environment, nI nf, x_value, x_applied, x_argumentCount, nI (co + 1), x_consCount, x_entryCount, x_outputCount, x_itemCount, x_text, x_firsts, x_rests, x_placeNames, x_placeValues, x_placeOuters, x_procedureParts, x_procedurePlaces, x_continuationFrames, upd x_frameTasks nf 1, vp_updL x_frameForms nf (cd_xl T n (pz_nx T n p)), vp_updL x_frameValues nf (zv_c 3 0), upd x_framePlaces nf x_environment, upd x_frameNexts nf y_next, x_arguments, x_outputs, x_itemKinds, x_itemNumbers, x_openLists),
        (y_size, y_pairs, y_open, y_formCount, y_places, nI np, y_continuationCount, nI (nf + 1), y_foundCount, y_argumentCount, y_value, cd_yv T n p, y_wherein, nI nf, 1, -1000000003, nI (co + 1), y_made, y_entered, y_printCount, y_itemCount, y_text, y_firsts, y_rests, y_heads, y_lasts, y_globals, y_placeNames, y_placeValues, y_placeNexts, y_procedureForms, y_procedurePlaces, y_continuations, upd y_whats nf 1, vp_updL y_withs nf (cd_yl T n (pz_nx T n p)), upd y_whereins nf y_wherein, upd y_soFars nf 0, upd y_afters nf y_next, y_found, y_foundNexts, y_arguments, y_prints, y_itemKinds, y_itemNumbers, y_pile),
        xs_toWord hc hpx q2 q4 (by omega) h2 (fun post hp => ?_), ys_toSpecial hc rfl hpy q1 q3 (by omega) h2 (fun post hp => ?_),
        Or.inr (Or.inl ⟨M, G, px, py, pl, np, nc, nf + 1, fo, cn, et, pc, p, hk9, by omega, rfl, rfl, rfl, rfl, ⟨p1, p2, ls_CF hl⟩, rfl, rfl, he, rfl, Or.inr ⟨nf, by omega, rfl⟩⟩)⟩
      · rw [q6]
        unfold wpX_workOutWord
        refine xs_shape hR hn hT hpx c1 hbb hk hl (by omega) h2 (fun _ => br_f (by decide) ?_) (fun z => absurd hcan z)
        rw [hpl]
        refine ⟨hin, nm_r ((cl_R hcl).trans e5) ⟨hin, nm_r ((cl_R hcl).trans e6) (br_f (by decide) (br_f (by decide) (br_f (by decide) (br_t rfl ?_))))⟩⟩
        rw [zk_xE]
        refine xs_push (by omega) ?_
        rw [hf]
        exact hp
      · rw [q5]
        refine ys_sp hR hn hT hpy c1 hbb hk hl ?_
        have h74 : wY_workSpecial_74 post (cd_yl T n p) y_size y_pairs y_open y_formCount y_places (nI np) y_continuationCount (nI nf) y_foundCount y_argumentCount y_value (zv_c 3 a) y_wherein y_next y_working (-1000000003) (nI (co + 1)) y_made y_entered y_printCount y_itemCount y_text y_firsts y_rests y_heads y_lasts y_globals y_placeNames y_placeValues y_placeNexts y_procedureForms y_procedurePlaces y_continuations y_whats y_withs y_whereins y_soFars y_afters y_found y_foundNexts y_arguments y_prints y_itemKinds y_itemNumbers y_pile := by
          unfold wY_workSpecial_74
          rw [hql]
          refine ys_restOf (by omega) ?_
          rw [e4]
          refine ys_later (by omega) (ys_firstOf (by omega) ?_)
          rw [e3]
          exact hp
        exact br_f (by decide) (br_t rfl (pk_eq k 2 (fun _ => h74) (fun z => pk_eq k 3 (fun _ => h74) (fun y => by omega))))
    · -- lambda
      obtain ⟨r1, r2⟩ : pz_nx T n p < n ∧ T (pz_nx T n p) ≠ 1 := by
        cases k with
        | zero => omega
        | succ k =>
          cases k with
          | zero => omega
          | succ k => exact ⟨hk.2.2.1, hk.2.2.2.1⟩
      obtain ⟨c, l1, l2, l3⟩ := na_W_L 4 (p + 1) 0 s3
      have hk9 := rk_proc (p := p) (c := c) (y := y_wherein) (x := x_environment) hr' (by omega) he hl p1 ⟨s2, l1, l2, l3⟩ r1 r2
      have hV : zv_V M (np + 1) nc (zv_c 5 np) (zv_c 5 np) := ⟨5, np, 5, np, by omega, by omega, rfl, rfl, Or.inr (Or.inr (Or.inr (Or.inr (Or.inr (Or.inl ⟨rfl, rfl, rfl, by omega⟩)))))⟩
      obtain ⟨f, hf9, hv⟩ := sm_mkV hk9 hb rfl rfl hV hf hf2
      have hip : vp_in (nI np) 700 := vp_in_nI (by omega) (by decide)
      have hiq : vp_in (nI np) 801 := vp_in_nI (by omega) (by decide)
      have hep : (nI np).toNatClampNeg = np := nI_clamp (by omega)
      refine ⟨_, _, xs_toWord hc hpx q2 q4 (by omega) h2 (fun post hp => ?_), ys_toSpecial hc rfl hpy q1 q3 (by omega) h2 (fun post hp => ?_), Or.inr (Or.inr ⟨f, hf9, hv⟩)⟩
      · rw [q6]
        unfold wpX_workOutWord
        refine xs_shape hR hn hT hpx c1 hbb hk hl (by omega) h2 (fun _ => br_f (by decide) ?_) (fun z => absurd hcan z)
        have hmk : wpX_makeProcedure post (x_textLength, nI px, x_placeCount, nI np, x_continuationCount, nI nf, 0, -1, zv_c 2 b, x_environment, x_frame, x_value, x_applied, x_argumentCount, nI (co + 1), x_consCount, x_entryCount, x_outputCount, x_itemCount, x_text, x_firsts, x_rests, x_placeNames, x_placeValues, x_placeOuters, x_procedureParts, x_procedurePlaces, x_continuationFrames, x_frameTasks, x_frameForms, x_frameValues, x_framePlaces, x_frameNexts, x_arguments, x_outputs, x_itemKinds, x_itemNumbers, x_openLists) (cd_xl T n p) := by
          exact br_t (nI_lt (b := 700) (by omega) (by decide)) ⟨hip, nm_r (cl_L hep) ⟨hip, nm_r (cl_I hep) (xs_tagged (t := 5) (k := np) rfl rfl (by decide) (by omega) (nm_r (nI_1 np) hp))⟩⟩
        have hi2 : vp_in (cd_xl T n p).toInt32 1400 := by rw [hpl]; exact hin
        exact ⟨hi2, nm_e ⟨hi2, nm_e (br_f (by decide) (br_f (by decide) (br_f (by decide) (br_f (by decide) (br_t rfl hmk)))))⟩⟩
      · rw [q5]
        refine ys_sp hR hn hT hpy c1 hbb hk hl (br_f (by decide) (br_f (by decide) (br_t rfl (pk_le k 1 (fun z => by omega) (fun z => ?_)))))
        have hyl : ∀ (Q : Int64 → Prop), Q (cd_yv T n p) → wpY_firstOf Q (y_size, y_pairs, y_open, y_formCount, y_places, nI np, y_continuationCount, nI nf, y_foundCount, y_argumentCount, y_value, zv_c 3 a, y_wherein, y_next, y_working, -1000000003, nI (co + 1), y_made, y_entered, y_printCount, y_itemCount, y_text, y_firsts, y_rests, y_heads, y_lasts, y_globals, y_placeNames, y_placeValues, y_placeNexts, y_procedureForms, y_procedurePlaces, y_continuations, y_whats, y_withs, y_whereins, y_soFars, y_afters, y_found, y_foundNexts, y_arguments, y_prints, y_itemKinds, y_itemNumbers, y_pile) (cd_yl T n p) := by
          intro Q hQ
          rw [hql]
          refine ys_firstOf (by omega) ?_
          rw [e3]
          exact hQ
        exact hyl _ (ys_areNames hR hn hT hpy c1 hbb p1 p2 (ls_CF hl) (fun y => br_f (by decide) ⟨hiq, nm_r (cl_L hep) ⟨hiq, nm_r (cl_I hep) (ys_thing (t := 5) (k := np) rfl rfl (by decide) (by omega) (nm_r (nI_1 np) hp))⟩⟩) (fun y => absurd ⟨s2, s3⟩ y))
    · -- define, set
      have hnx : pz_nx T n p = p + 1 := pz_nx_a (by omega)
      obtain ⟨r1, r2⟩ : p + 1 < n ∧ T (p + 1) ≠ 1 := by
        have := hk.2.2.1
        have := hk.2.2.2.1
        rw [hnx] at *
        exact ⟨by assumption, by assumption⟩
      rw [hnx] at hls e4 e6
      obtain ⟨e1', e2', e3', e4', e5', e6'⟩ := cd_cell c1 hbb r1 r2 hls.2.2 (pz_CL_nD0 hls.2.1)
      have hin' : vp_in (zv_c 2 (pz_AX T n 0 (p + 1))).toInt32 1400 := zv_in (by omega) (by decide)
      have hcl' : (zv_c 2 (pz_AX T n 0 (p + 1))).toInt32.toNatClampNeg = pz_AX T n 0 (p + 1) := zv_cl (by omega)
      rw [cd_xl_p r1 r2] at e6
      rw [cd_yl_p r1 r2] at e4
      have hxn : cd_xv T n p = zv_c 1 (T p) := by
        rw [cd_xv_a (by omega)]
        unfold zv_xA
        rw [if_neg (by omega), if_neg (by omega)]
      have hyn : cd_yv T n p = zv_c 4 (T p) := by
        rw [cd_yv_a (by omega)]
        unfold zv_yA
        rw [if_neg (by omega), if_neg (by omega)]
      rw [hxn] at e5
      rw [hyn] at e3
      have hz : sh_z T 2 p = 1 := if_pos ⟨rfl, s1, s2⟩
      obtain ⟨z, z1, z2, z3⟩ : ∃ z, 2 ≤ z ∧ z < 4 ∧ w = z + 41 := ⟨w - 41, by omega⟩
      have hk9 := rk_push (w := nI z) (ey := y_wherein) (ex := x_environment) (sy := 0) (sx := zv_c 3 0) (f := y_next) hr' he hf2 (Or.inr (Or.inl ⟨z, T p, z1, z2, rfl, s1, s2, rfl, rfl⟩))
      refine ⟨(x_textLength, nI px, x_placeCount, nI np, x_continuationCount, nI (nf + 1), 0, -1, cd_xv T n (p + 1), x_environment, nI nf, x_value, x_applied, x_argumentCount, nI (co + 1), x_consCount, x_entryCount, x_outputCount, x_itemCount, x_text, x_firsts, x_rests, x_placeNames, x_placeValues, x_placeOuters, x_procedureParts, x_procedurePlaces, x_continuationFrames, upd x_frameTasks nf (nI z), vp_updL x_frameForms nf (zv_c 1 (T p)), vp_updL x_frameValues nf (zv_c 3 0), upd x_framePlaces nf x_environment, upd x_frameNexts nf y_next, x_arguments, x_outputs, x_itemKinds, x_itemNumbers, x_openLists),
        (y_size, y_pairs, y_open, y_formCount, y_places, nI np, y_continuationCount, nI (nf + 1), y_foundCount, y_argumentCount, y_value, cd_yv T n (p + 1), y_wherein, nI nf, 1, -1000000003, nI (co + 1), y_made, y_entered, y_printCount, y_itemCount, y_text, y_firsts, y_rests, y_heads, y_lasts, y_globals, y_placeNames, y_placeValues, y_placeNexts, y_procedureForms, y_procedurePlaces, y_continuations, upd y_whats nf (nI z), vp_updL y_withs nf (zv_c 4 (T p)), upd y_whereins nf y_wherein, upd y_soFars nf 0, upd y_afters nf y_next, y_found, y_foundNexts, y_arguments, y_prints, y_itemKinds, y_itemNumbers, y_pile),
        xs_toWord hc hpx q2 q4 (by omega) h2 (fun post hp => ?_), ys_toSpecial hc rfl hpy q1 q3 (by omega) h2 (fun post hp => ?_),
        Or.inr (Or.inl ⟨M, G, px, py, pl, np, nc, nf + 1, fo, cn, et, pc, p + 1, hk9, by omega, rfl, rfl, rfl, rfl, ⟨r1, r2, ls_CF hls⟩, rfl, rfl, he, rfl, Or.inr ⟨nf, by omega, rfl⟩⟩)⟩
      · rw [q6]
        unfold wpX_workOutWord
        refine xs_shape hR hn hT hpx c1 hbb hk hl (by omega) h2 (fun _ => br_f (by decide) ?_) (fun z => absurd hcan z)
        rw [hpl]
        refine ⟨hin, nm_r ((cl_R hcl).trans e5) ⟨hin, nm_r ((cl_R hcl).trans e6) ?_⟩⟩
        rw [zk_xE]
        rcases hw with rfl | rfl
        · have : z = 2 := by omega
          subst this
          refine br_f (by decide) (br_f (by decide) (br_f (by decide) (br_f (by decide) (br_f (by decide) (br_t rfl (xs_push (by omega) ⟨hin', nm_r ((cl_R hcl').trans e5') ?_⟩))))))
          rw [hf]
          exact hp
        · have : z = 3 := by omega
          subst this
          refine br_f (by decide) (br_f (by decide) (br_f (by decide) (br_f (by decide) (br_f (by decide) (br_f (by decide) (br_t rfl (xs_push (by omega) ⟨hin', nm_r ((cl_R hcl').trans e5') ?_⟩)))))))
          rw [hf]
          exact hp
      · rw [q5]
        refine ys_sp hR hn hT hpy c1 hbb hk hl ?_
        rw [hz]
        have h190 : wY_workSpecial_190 post (nI w) (cd_yl T n p) (nI 2) 1 y_size y_pairs y_open y_formCount y_places (nI np) y_continuationCount (nI nf) y_foundCount y_argumentCount y_value (zv_c 3 a) y_wherein y_next y_working (-1000000003) (nI (co + 1)) y_made y_entered y_printCount y_itemCount y_text y_firsts y_rests y_heads y_lasts y_globals y_placeNames y_placeValues y_placeNexts y_procedureForms y_procedurePlaces y_continuations y_whats y_withs y_whereins y_soFars y_afters y_found y_foundNexts y_arguments y_prints y_itemKinds y_itemNumbers y_pile := by
          rw [hql]
          refine br_f (by decide) (ys_firstOf (by omega) ?_)
          have ez : nI w - 41 = nI z := by
            rw [z3]
            have := pk_sub (a := z + 41) (b := 41) (by omega)
            rw [Nat.add_sub_cancel] at this
            exact this
          rw [e3, ez]
          refine ys_later (by omega) (ys_restOf (by omega) ?_)
          rw [e4]
          refine ys_firstOf (by omega) ?_
          rw [e3']
          exact hp
        rcases hw with rfl | rfl
        · exact br_f (by decide) (br_f (by decide) (br_f (by decide) (br_t rfl h190)))
        · exact br_f (by decide) (br_f (by decide) (br_f (by decide) (br_f (by decide) (br_t rfl h190))))
    · -- begin
      obtain ⟨u', v', hX, hY, hF⟩ := sm_all (w := y_wherein) hr' rfl rfl (by omega) he hf hf2 hl p1 p2
      refine ⟨u', v', xs_toWord hc hpx q2 q4 (by omega) h2 (fun post hp => ?_), ys_toSpecial hc rfl hpy q1 q3 (by omega) h2 (fun post hp => ?_), Or.inr (Or.inl hF)⟩
      · rw [q6]
        unfold wpX_workOutWord
        refine xs_shape hR hn hT hpx c1 hbb hk hl (by omega) h2 (fun _ => br_f (by decide) ?_) (fun z => absurd hcan z)
        have hi2 : vp_in (cd_xl T n p).toInt32 1400 := by rw [hpl]; exact hin
        refine ⟨hi2, nm_e ⟨hi2, nm_e (br_f (by decide) (br_t (by decide) (hX _ ?_)))⟩⟩
        obtain ⟨x_textLength, x_pairCount, x_placeCount, x_procedureCount, x_continuationCount, x_frameCount, x_state, x_ending, x_form, x_environment, x_frame, x_value, x_applied, x_argumentCount, x_countedCount, x_consCount, x_entryCount, x_outputCount, x_itemCount, x_text, x_firsts, x_rests, x_placeNames, x_placeValues, x_placeOuters, x_procedureParts, x_procedurePlaces, x_continuationFrames, x_frameTasks, x_frameForms, x_frameValues, x_framePlaces, x_frameNexts, x_arguments, x_outputs, x_itemKinds, x_itemNumbers, x_openLists⟩ := u'
        exact hp
      · rw [q5]
        refine ys_sp hR hn hT hpy c1 hbb hk hl (br_f (by decide) (br_f (by decide) (br_f (by decide) (br_f (by decide) (br_f (by decide) (br_t rfl (br_f (nI_nle (by omega) hkb) (hY _ ?_))))))))
        obtain ⟨y_size, y_pairs, y_open, y_formCount, y_places, y_procedures, y_continuationCount, y_things, y_foundCount, y_argumentCount, y_value, y_form, y_wherein, y_next, y_working, y_ending, y_counts, y_made, y_entered, y_printCount, y_itemCount, y_text, y_firsts, y_rests, y_heads, y_lasts, y_globals, y_placeNames, y_placeValues, y_placeNexts, y_procedureForms, y_procedurePlaces, y_continuations, y_whats, y_withs, y_whereins, y_soFars, y_afters, y_found, y_foundNexts, y_arguments, y_prints, y_itemKinds, y_itemNumbers, y_pile⟩ := v'
        exact hp
  · refine ⟨(x_textLength, nI px, x_placeCount, nI np, x_continuationCount, nI nf, 0, 4, zv_c 2 b, x_environment, x_frame, x_value, x_applied, x_argumentCount, nI (co + 1), x_consCount, x_entryCount, x_outputCount, x_itemCount, x_text, x_firsts, x_rests, x_placeNames, x_placeValues, x_placeOuters, x_procedureParts, x_procedurePlaces, x_continuationFrames, x_frameTasks, x_frameForms, x_frameValues, x_framePlaces, x_frameNexts, x_arguments, x_outputs, x_itemKinds, x_itemNumbers, x_openLists), (y_size, y_pairs, y_open, y_formCount, y_places, nI np, y_continuationCount, nI nf, y_foundCount, y_argumentCount, y_value, zv_c 3 a, y_wherein, y_next, y_working, 4, nI (co + 1), y_made, y_entered, y_printCount, y_itemCount, y_text, y_firsts, y_rests, y_heads, y_lasts, y_globals, y_placeNames, y_placeValues, y_placeNexts, y_procedureForms, y_procedurePlaces, y_continuations, y_whats, y_withs, y_whereins, y_soFars, y_afters, y_found, y_foundNexts, y_arguments, y_prints, y_itemKinds, y_itemNumbers, y_pile),
      xs_toWord hc hpx q2 q4 (by omega) h2 (fun post hp => ?_), ys_toSpecial hc rfl hpy q1 q3 (by omega) h2 (fun post hp => ?_), Or.inl (sm_E_R (e := 4) hr' (by decide) (by decide))⟩
    · rw [q6]
      unfold wpX_workOutWord
      exact xs_shape hR hn hT hpx c1 hbb hk hl (by omega) h2 (fun z => absurd z sh) (fun _ => br_t rfl hp)
    · rw [q5]
      exact yw_syn hR hn hT hpy c1 hbb hk hl (by omega) h2 sh hp
end
end
section
/-! a form is worked out: all cases -/
section
variable {x_textLength : Int32} {x_pairCount : Int32} {x_placeCount : Int32} {x_procedureCount : Int32} {x_continuationCount : Int32} {x_frameCount : Int32} {x_state : Int32} {x_ending : Int32} {x_form : Int64} {x_environment : Int32} {x_frame : Int32} {x_value : Int64} {x_applied : Int64} {x_argumentCount : Int32} {x_countedCount : Int32} {x_consCount : Int32} {x_entryCount : Int32} {x_outputCount : Int32} {x_itemCount : Int32} {x_text : Nat → Int32} {x_firsts : Nat → Int64} {x_rests : Nat → Int64} {x_placeNames : Nat → Int32} {x_placeValues : Nat → Int64} {x_placeOuters : Nat → Int32} {x_procedureParts : Nat → Int64} {x_procedurePlaces : Nat → Int32} {x_continuationFrames : Nat → Int32} {x_frameTasks : Nat → Int32} {x_frameForms : Nat → Int64} {x_frameValues : Nat → Int64} {x_framePlaces : Nat → Int32} {x_frameNexts : Nat → Int32} {x_arguments : Nat → Int64} {x_outputs : Nat → Int32} {x_itemKinds : Nat → Int32} {x_itemNumbers : Nat → Int32} {x_openLists : Nat → Int64}
variable {y_size : Int32} {y_pairs : Int32} {y_open : Int32} {y_formCount : Int32} {y_places : Int32} {y_procedures : Int32} {y_continuationCount : Int32} {y_things : Int32} {y_foundCount : Int32} {y_argumentCount : Int32} {y_value : Int64} {y_form : Int64} {y_wherein : Int32} {y_next : Int32} {y_working : Int32} {y_ending : Int32} {y_counts : Int32} {y_made : Int32} {y_entered : Int32} {y_printCount : Int32} {y_itemCount : Int32} {y_text : Nat → Int32} {y_firsts : Nat → Int64} {y_rests : Nat → Int64} {y_heads : Nat → Int32} {y_lasts : Nat → Int32} {y_globals : Nat → Int64} {y_placeNames : Nat → Int32} {y_placeValues : Nat → Int64} {y_placeNexts : Nat → Int32} {y_procedureForms : Nat → Int64} {y_procedurePlaces : Nat → Int32} {y_continuations : Nat → Int32} {y_whats : Nat → Int32} {y_withs : Nat → Int64} {y_whereins : Nat → Int32} {y_soFars : Nat → Int32} {y_afters : Nat → Int32} {y_found : Nat → Int64} {y_foundNexts : Nat → Int32} {y_arguments : Nat → Int64} {y_prints : Nat → Int32} {y_itemKinds : Nat → Int32} {y_itemNumbers : Nat → Int32} {y_pile : Nat → Int64}
variable {T : Nat → Nat} {n px py pl np nc nf fo co cn et pc : Nat} {M : Nat → Nat → Prop} {G : Nat → Nat}
/-- (quote D) -/
theorem st_quote {a b k : Nat} (hr : sm_R T n M G px py pl np nc nf fo (co + 1) cn et pc (x_textLength, x_pairCount, x_placeCount, x_procedureCount, x_continuationCount, x_frameCount, x_state, x_ending, zv_c 2 b, x_environment, x_frame, x_value, x_applied, x_argumentCount, nI (co + 1), x_consCount, x_entryCount, x_outputCount, x_itemCount, x_text, x_firsts, x_rests, x_placeNames, x_placeValues, x_placeOuters, x_procedureParts, x_procedurePlaces, x_continuationFrames, x_frameTasks, x_frameForms, x_frameValues, x_framePlaces, x_frameNexts, x_arguments, x_outputs, x_itemKinds, x_itemNumbers, x_openLists) (y_size, y_pairs, y_open, y_formCount, y_places, y_procedures, y_continuationCount, y_things, y_foundCount, y_argumentCount, y_value, zv_c 3 a, y_wherein, y_next, y_working, y_ending, nI (co + 1), y_made, y_entered, y_printCount, y_itemCount, y_text, y_firsts, y_rests, y_heads, y_lasts, y_globals, y_placeNames, y_placeValues, y_placeNexts, y_procedureForms, y_procedurePlaces, y_continuations, y_whats, y_withs, y_whereins, y_soFars, y_afters, y_found, y_foundNexts, y_arguments, y_prints, y_itemKinds, y_itemNumbers, y_pile)) (hc : co < 600) (hb : fo ≤ co + 1 ∧ nf ≤ co + 1) (hx : x_ending = -1) (hy : y_ending = -1000000003) (hf : x_frame = y_next) (hf2 : fm_N nf y_next)
    (q1 : a < py) (q2 : b < px) (q3 : y_firsts a = zv_c 4 40) (q4 : x_firsts b = zv_c 1 40) (k1 : ch_N y_rests (zv_c 3) (zv_c 2 0) py k (y_rests a)) (k2 : ch_N x_rests (zv_c 2) (zv_c 3 0) px k (x_rests b))
    (k3 : k = 1 → ∃ a' b', a' < py ∧ b' < px ∧ y_rests a = zv_c 3 a' ∧ x_rests b = zv_c 2 b' ∧ zv_V M np nc (y_firsts a') (x_firsts b')) :
    ∃ u' v', (∀ post : SX → Prop, post u' → wpX_workOut post (x_textLength, x_pairCount, x_placeCount, x_procedureCount, x_continuationCount, x_frameCount, x_state, x_ending, zv_c 2 b, x_environment, x_frame, x_value, x_applied, x_argumentCount, nI co, x_consCount, x_entryCount, x_outputCount, x_itemCount, x_text, x_firsts, x_rests, x_placeNames, x_placeValues, x_placeOuters, x_procedureParts, x_procedurePlaces, x_continuationFrames, x_frameTasks, x_frameForms, x_frameValues, x_framePlaces, x_frameNexts, x_arguments, x_outputs, x_itemKinds, x_itemNumbers, x_openLists)) ∧ (∀ post : SY → Prop, post v' → wpY_work post (y_size, y_pairs, y_open, y_formCount, y_places, y_procedures, y_continuationCount, y_things, y_foundCount, y_argumentCount, y_value, zv_c 3 a, y_wherein, y_next, y_working, y_ending, nI co, y_made, y_entered, y_printCount, y_itemCount, y_text, y_firsts, y_rests, y_heads, y_lasts, y_globals, y_placeNames, y_placeValues, y_placeNexts, y_procedureForms, y_procedurePlaces, y_continuations, y_whats, y_withs, y_whereins, y_soFars, y_afters, y_found, y_foundNexts, y_arguments, y_prints, y_itemKinds, y_itemNumbers, y_pile)) ∧ sm_to T n (co + 1) u' v' := by
  subst hx hy
  have hr' := hr
  obtain ⟨a0, ⟨n1, n2, n3, n4, n5, n6, n7, n8, n9, n10, n11⟩, ⟨m1, m2, m3, m4, m5, m6, m7, m8, m9, m10, m11⟩, b0, c1, c2, c3, c4, c5, c6, c7, c8⟩ := hr
  subst n2
  have hpx : px ≤ 1400 := by omega
  have hpy : py ≤ 900 := by omega
  have hkb : k ≤ py := ch_len (ch_Y0 (by omega)) (ch_inj (by decide) (by omega)) k1
  by_cases hk : k = 1
  · subst hk
    obtain ⟨a', b', a1, b1, e1, e2, hV⟩ := k3 rfl
    obtain ⟨f, hf9, hv⟩ := sm_mkV hr' hb rfl rfl hV hf hf2
    have hin : vp_in (zv_c 2 b').toInt32 1400 := zv_in (by omega) (by decide)
    have hcl : (zv_c 2 b').toInt32.toNatClampNeg = b' := zv_cl (by omega)
    refine ⟨_, _, xs_toWord hc hpx q2 q4 (by decide) (by decide) (fun post hp => ?_), ys_toSpecial hc rfl hpy q1 q3 (by decide) (by decide) (fun post hp => ?_), Or.inr (Or.inr ⟨f, hf9, hv⟩)⟩
    · unfold wpX_workOutWord wpX_hasShape
      refine xs_len_ch hpx k2 (br_f (by decide) (br_f (by decide) (br_t rfl (br_t rfl (br_f (by decide) ?_)))))
      rw [e2]
      exact ⟨hin, nm_r (cl_R hcl) ⟨hin, nm_e (br_f (by decide) (br_f (by decide) (br_t rfl hp)))⟩⟩
    · unfold wpY_workSpecial
      refine ys_len_ch hpy k1 (br_f (by decide) (br_t rfl (br_t rfl ?_)))
      rw [e1]
      exact ys_firstOf (by omega) hp
  · have hE := sm_E_R (e := 4) hr' (by decide) (by decide)
    refine ⟨_, _, xs_toWord hc hpx q2 q4 (by decide) (by decide) (fun post hp => ?_), ys_toSpecial hc rfl hpy q1 q3 (by decide) (by decide) (fun post hp => ?_), Or.inl hE⟩
    · unfold wpX_workOutWord wpX_hasShape
      exact xs_len_ch hpx k2 (br_f (by decide) (br_f (by decide) (br_t rfl (br_f (ne_I (b := 1) hk (by omega) (by decide)) (br_t rfl hp)))))
    · have h30 : ∀ z, wY_workSpecial_30 post (nI 40) (y_rests a) (nI k) z y_size y_pairs y_open y_formCount y_places y_procedures y_continuationCount y_things y_foundCount y_argumentCount y_value (zv_c 3 a) y_wherein y_next y_working (-1000000003) (nI (co + 1)) y_made y_entered y_printCount y_itemCount y_text y_firsts y_rests y_heads y_lasts y_globals y_placeNames y_placeValues y_placeNexts y_procedureForms y_procedurePlaces y_continuations y_whats y_withs y_whereins y_soFars y_afters y_found y_foundNexts y_arguments y_prints y_itemKinds y_itemNumbers y_pile := fun z =>
        br_t rfl (br_f (ne_I (b := 1) hk (by omega) (by decide)) (br_f (by decide) (br_f (by decide) (br_f (by decide) (br_f (by decide) (br_f (by decide) hp))))))
      unfold wpY_workSpecial
      refine ys_len_ch hpy k1 (pk_eq k 2 (fun z => ?_) (fun z => h30 0))
      subst z
      obtain ⟨c, r1, r2, r3⟩ := id k1
      have h30' := h30
      rw [r2] at h30' ⊢
      refine ys_firstOf (by omega) ?_
      have : ∀ v, wpY_isName (fun r => ((r = 0 → wY_workSpecial_29 post (nI 40) (zv_c 3 c) (nI 2) y_size y_pairs y_open y_formCount y_places y_procedures y_continuationCount y_things y_foundCount y_argumentCount y_value (zv_c 3 a) y_wherein y_next y_working (-1000000003) (nI (co + 1)) y_made y_entered y_printCount y_itemCount y_text y_firsts y_rests y_heads y_lasts y_globals y_placeNames y_placeValues y_placeNexts y_procedureForms y_procedurePlaces y_continuations y_whats y_withs y_whereins y_soFars y_afters y_found y_foundNexts y_arguments y_prints y_itemKinds y_itemNumbers y_pile) ∧ (¬ r = 0 → wY_workSpecial_30 post (nI 40) (zv_c 3 c) (nI 2) 1 y_size y_pairs y_open y_formCount y_places y_procedures y_continuationCount y_things y_foundCount y_argumentCount y_value (zv_c 3 a) y_wherein y_next y_working (-1000000003) (nI (co + 1)) y_made y_entered y_printCount y_itemCount y_text y_firsts y_rests y_heads y_lasts y_globals y_placeNames y_placeValues y_placeNexts y_procedureForms y_procedurePlaces y_continuations y_whats y_withs y_whereins y_soFars y_afters y_found y_foundNexts y_arguments y_prints y_itemKinds y_itemNumbers y_pile))) (y_size, y_pairs, y_open, y_formCount, y_places, y_procedures, y_continuationCount, y_things, y_foundCount, y_argumentCount, y_value, zv_c 3 a, y_wherein, y_next, y_working, -1000000003, nI (co + 1), y_made, y_entered, y_printCount, y_itemCount, y_text, y_firsts, y_rests, y_heads, y_lasts, y_globals, y_placeNames, y_placeValues, y_placeNexts, y_procedureForms, y_procedurePlaces, y_continuations, y_whats, y_withs, y_whereins, y_soFars, y_afters, y_found, y_foundNexts, y_arguments, y_prints, y_itemKinds, y_itemNumbers, y_pile) v := by
        intro v
        unfold wpY_isName wpY_tag
        refine br_c (fun z => br_c (fun y => br_t rfl (h30' 0)) (fun y => br_f (by decide) (h30' 1))) (fun z => br_t rfl (h30' 0))
      exact this _
theorem st_F (h : sm_F T n co (x_textLength, x_pairCount, x_placeCount, x_procedureCount, x_continuationCount, x_frameCount, x_state, x_ending, x_form, x_environment, x_frame, x_value, x_applied, x_argumentCount, x_countedCount, x_consCount, x_entryCount, x_outputCount, x_itemCount, x_text, x_firsts, x_rests, x_placeNames, x_placeValues, x_placeOuters, x_procedureParts, x_procedurePlaces, x_continuationFrames, x_frameTasks, x_frameForms, x_frameValues, x_framePlaces, x_frameNexts, x_arguments, x_outputs, x_itemKinds, x_itemNumbers, x_openLists) (y_size, y_pairs, y_open, y_formCount, y_places, y_procedures, y_continuationCount, y_things, y_foundCount, y_argumentCount, y_value, y_form, y_wherein, y_next, y_working, y_ending, y_counts, y_made, y_entered, y_printCount, y_itemCount, y_text, y_firsts, y_rests, y_heads, y_lasts, y_globals, y_placeNames, y_placeValues, y_placeNexts, y_procedureForms, y_procedurePlaces, y_continuations, y_whats, y_withs, y_whereins, y_soFars, y_afters, y_found, y_foundNexts, y_arguments, y_prints, y_itemKinds, y_itemNumbers, y_pile)) : ∃ u' v', (∀ post : SX → Prop, post u' → wpX_workOut post (x_textLength, x_pairCount, x_placeCount, x_procedureCount, x_continuationCount, x_frameCount, x_state, x_ending, x_form, x_environment, x_frame, x_value, x_applied, x_argumentCount, x_countedCount, x_consCount, x_entryCount, x_outputCount, x_itemCount, x_text, x_firsts, x_rests, x_placeNames, x_placeValues, x_placeOuters, x_procedureParts, x_procedurePlaces, x_continuationFrames, x_frameTasks, x_frameForms, x_frameValues, x_framePlaces, x_frameNexts, x_arguments, x_outputs, x_itemKinds, x_itemNumbers, x_openLists)) ∧ (∀ post : SY → Prop, post v' → wpY_work post (y_size, y_pairs, y_open, y_formCount, y_places, y_procedures, y_continuationCount, y_things, y_foundCount, y_argumentCount, y_value, y_form, y_wherein, y_next, y_working, y_ending, y_counts, y_made, y_entered, y_printCount, y_itemCount, y_text, y_firsts, y_rests, y_heads, y_lasts, y_globals, y_placeNames, y_placeValues, y_placeNexts, y_procedureForms, y_procedurePlaces, y_continuations, y_whats, y_withs, y_whereins, y_soFars, y_afters, y_found, y_foundNexts, y_arguments, y_prints, y_itemKinds, y_itemNumbers, y_pile)) ∧ (sm_E T n u' v' ∨ (co < 600 ∧ sm_to T n (co + 1) u' v')) := by
  by_cases hc6 : co = 600
  · obtain ⟨u', v', a, b, c⟩ := st_tired h hc6
    exact ⟨u', v', a, b, Or.inl c⟩
  · obtain ⟨M, G, px, py, pl, np, nc, nf, fo, cn, et, pc, j, h, hb, s1, s2, s3, s4, ⟨j1, j2, j3⟩, s6, s7, he, hf, hf2⟩ := h
    have hr' := h
    obtain ⟨a0, ⟨n1, n2, n3, n4, n5, n6, n7, n8, n9, n10, n11⟩, ⟨m1, m2, m3, m4, m5, m6, m7, m8, m9, m10, m11⟩, b0, c1, c2, c3, c4, c5, c6, c7, c8⟩ := h
    have hlt : co < 600 := by omega
    subst n7 m8
    have hk := rk_count hr' hlt
    have key : (∃ u' v', (∀ post : SX → Prop, post u' → wpX_workOut post (x_textLength, x_pairCount, x_placeCount, x_procedureCount, x_continuationCount, x_frameCount, x_state, x_ending, x_form, x_environment, x_frame, x_value, x_applied, x_argumentCount, nI co, x_consCount, x_entryCount, x_outputCount, x_itemCount, x_text, x_firsts, x_rests, x_placeNames, x_placeValues, x_placeOuters, x_procedureParts, x_procedurePlaces, x_continuationFrames, x_frameTasks, x_frameForms, x_frameValues, x_framePlaces, x_frameNexts, x_arguments, x_outputs, x_itemKinds, x_itemNumbers, x_openLists)) ∧ (∀ post : SY → Prop, post v' → wpY_work post (y_size, y_pairs, y_open, y_formCount, y_places, y_procedures, y_continuationCount, y_things, y_foundCount, y_argumentCount, y_value, y_form, y_wherein, y_next, y_working, y_ending, nI co, y_made, y_entered, y_printCount, y_itemCount, y_text, y_firsts, y_rests, y_heads, y_lasts, y_globals, y_placeNames, y_placeValues, y_placeNexts, y_procedureForms, y_procedurePlaces, y_continuations, y_whats, y_withs, y_whereins, y_soFars, y_afters, y_found, y_foundNexts, y_arguments, y_prints, y_itemKinds, y_itemNumbers, y_pile)) ∧ sm_to T n (co + 1) u' v') → ∃ u' v', (∀ post : SX → Prop, post u' → wpX_workOut post (x_textLength, x_pairCount, x_placeCount, x_procedureCount, x_continuationCount, x_frameCount, x_state, x_ending, x_form, x_environment, x_frame, x_value, x_applied, x_argumentCount, nI co, x_consCount, x_entryCount, x_outputCount, x_itemCount, x_text, x_firsts, x_rests, x_placeNames, x_placeValues, x_placeOuters, x_procedureParts, x_procedurePlaces, x_continuationFrames, x_frameTasks, x_frameForms, x_frameValues, x_framePlaces, x_frameNexts, x_arguments, x_outputs, x_itemKinds, x_itemNumbers, x_openLists)) ∧ (∀ post : SY → Prop, post v' → wpY_work post (y_size, y_pairs, y_open, y_formCount, y_places, y_procedures, y_continuationCount, y_things, y_foundCount, y_argumentCount, y_value, y_form, y_wherein, y_next, y_working, y_ending, nI co, y_made, y_entered, y_printCount, y_itemCount, y_text, y_firsts, y_rests, y_heads, y_lasts, y_globals, y_placeNames, y_placeValues, y_placeNexts, y_procedureForms, y_procedurePlaces, y_continuations, y_whats, y_withs, y_whereins, y_soFars, y_afters, y_found, y_foundNexts, y_arguments, y_prints, y_itemKinds, y_itemNumbers, y_pile)) ∧ (sm_E T n u' v' ∨ (co < 600 ∧ sm_to T n (co + 1) u' v')) :=
      fun ⟨u', v', a, b, c⟩ => ⟨u', v', a, b, Or.inr ⟨hlt, c⟩⟩
    apply key
    rcases cd_cases a0.1 a0.2.1 a0.2.2.1 c1 c2.1 c2.2 j1 j2 j3 with ⟨t, s, k, k1, k2, k3, k4⟩ | ⟨k, k1, k2, k3, k4⟩ | ⟨k, k1, k2, k3, k4⟩ | (⟨k3, k4⟩ | ⟨k, k1, k2, k3, k4⟩) | ⟨a, b, h, q1, q2, k3, k4, q3, q4, q5, q6, q7, q8, q9, q10, q11⟩ | ⟨a, b, w, q1, q2, k3, k4, q3, q4, q5⟩
    · have e6 := s6.trans k4
      have e7 := s7.trans k3
      subst e6 e7
      exact st_self hk hlt hb s2 s3 hf hf2 k1 k2
    · have e6 := s6.trans k4
      have e7 := s7.trans k3
      subst e6 e7
      exact st_name hk hlt hb s2 s3 hf hf2 he k1 k2
    · have e6 := s6.trans k4
      have e7 := s7.trans k3
      subst e6 e7
      exact st_builtin hk hlt hb s2 s3 hf hf2 k1 k2
    · have e6 := s6.trans k4
      have e7 := s7.trans k3
      subst e6 e7
      exact st_syntax hk hlt s3 (Or.inl ⟨rfl, rfl, rfl⟩)
    · have e6 := s6.trans k4
      have e7 := s7.trans k3
      subst e6 e7
      exact st_syntax hk hlt s3 (Or.inr ⟨rfl, rfl, k1, k2⟩)
    · have e6 := s6.trans k4
      have e7 := s7.trans k3
      subst e6 e7
      exact st_app hk hlt hb s2 s1 s3 hf hf2 he q1 q2 q3 q4 q5 q6 q7 q8 q9 q10 q11
    · have e6 := s6.trans k4
      have e7 := s7.trans k3
      subst e6 e7
      rcases q5 with ⟨rfl, k, g1, g2, g3⟩ | ⟨g1, g2, p, g3, g4, g5⟩
      · exact st_quote hk hlt hb s2 s3 hf hf2 q1 q2 q3 q4 g1 g2 g3
      · exact st_word hk hlt (by omega) hb s2 s1 s3 hf hf2 he q1 q2 q3 q4 g1 g2 g3 g4 g5
end
end
section
/-! a value is given to a frame -/
def yA_loop (post : SY → Prop) (f : Nat) (g : Int64) (v : SY) : Prop := match v with
  | (y_size, y_pairs, y_open, y_formCount, y_places, y_procedures, y_continuationCount, y_things, y_foundCount, y_argumentCount, y_value, y_form, y_wherein, y_next, y_working, y_ending, y_counts, y_made, y_entered, y_printCount, y_itemCount, y_text, y_firsts, y_rests, y_heads, y_lasts, y_globals, y_placeNames, y_placeValues, y_placeNexts, y_procedureForms, y_procedurePlaces, y_continuations, y_whats, y_withs, y_whereins, y_soFars, y_afters, y_found, y_foundNexts, y_arguments, y_prints, y_itemKinds, y_itemNumbers, y_pile) => wY_applyFound_86 post f g 1 y_size y_pairs y_open y_formCount y_places y_procedures y_continuationCount y_things y_foundCount y_argumentCount y_value y_form y_wherein y_next y_working y_ending y_counts y_made y_entered y_printCount y_itemCount y_text y_firsts y_rests y_heads y_lasts y_globals y_placeNames y_placeValues y_placeNexts y_procedureForms y_procedurePlaces y_continuations y_whats y_withs y_whereins y_soFars y_afters y_found y_foundNexts y_arguments y_prints y_itemKinds y_itemNumbers y_pile
section
variable {x_textLength : Int32} {x_pairCount : Int32} {x_placeCount : Int32} {x_procedureCount : Int32} {x_continuationCount : Int32} {x_frameCount : Int32} {x_state : Int32} {x_ending : Int32} {x_form : Int64} {x_environment : Int32} {x_frame : Int32} {x_value : Int64} {x_applied : Int64} {x_argumentCount : Int32} {x_countedCount : Int32} {x_consCount : Int32} {x_entryCount : Int32} {x_outputCount : Int32} {x_itemCount : Int32} {x_text : Nat → Int32} {x_firsts : Nat → Int64} {x_rests : Nat → Int64} {x_placeNames : Nat → Int32} {x_placeValues : Nat → Int64} {x_placeOuters : Nat → Int32} {x_procedureParts : Nat → Int64} {x_procedurePlaces : Nat → Int32} {x_continuationFrames : Nat → Int32} {x_frameTasks : Nat → Int32} {x_frameForms : Nat → Int64} {x_frameValues : Nat → Int64} {x_framePlaces : Nat → Int32} {x_frameNexts : Nat → Int32} {x_arguments : Nat → Int64} {x_outputs : Nat → Int32} {x_itemKinds : Nat → Int32} {x_itemNumbers : Nat → Int32} {x_openLists : Nat → Int64}
variable {y_size : Int32} {y_pairs : Int32} {y_open : Int32} {y_formCount : Int32} {y_places : Int32} {y_procedures : Int32} {y_continuationCount : Int32} {y_things : Int32} {y_foundCount : Int32} {y_argumentCount : Int32} {y_value : Int64} {y_form : Int64} {y_wherein : Int32} {y_next : Int32} {y_working : Int32} {y_ending : Int32} {y_counts : Int32} {y_made : Int32} {y_entered : Int32} {y_printCount : Int32} {y_itemCount : Int32} {y_text : Nat → Int32} {y_firsts : Nat → Int64} {y_rests : Nat → Int64} {y_heads : Nat → Int32} {y_lasts : Nat → Int32} {y_globals : Nat → Int64} {y_placeNames : Nat → Int32} {y_placeValues : Nat → Int64} {y_placeNexts : Nat → Int32} {y_procedureForms : Nat → Int64} {y_procedurePlaces : Nat → Int32} {y_continuations : Nat → Int32} {y_whats : Nat → Int32} {y_withs : Nat → Int64} {y_whereins : Nat → Int32} {y_soFars : Nat → Int32} {y_afters : Nat → Int32} {y_found : Nat → Int64} {y_foundNexts : Nat → Int32} {y_arguments : Nat → Int64} {y_prints : Nat → Int32} {y_itemKinds : Nat → Int32} {y_itemNumbers : Nat → Int32} {y_pile : Nat → Int64}
variable {T : Nat → Nat} {n px py pl np nc nf fo co cn et pc m : Nat} {M : Nat → Nat → Prop} {G : Nat → Nat}
theorem sm_mkVb {y x : Int64} {b : Nat} (h : sm_R T n M G px py pl np nc nf fo co cn et pc (x_textLength, x_pairCount, x_placeCount, x_procedureCount, x_continuationCount, x_frameCount, x_state, x_ending, x_form, x_environment, x_frame, x_value, x_applied, x_argumentCount, x_countedCount, x_consCount, x_entryCount, x_outputCount, x_itemCount, x_text, x_firsts, x_rests, x_placeNames, x_placeValues, x_placeOuters, x_procedureParts, x_procedurePlaces, x_continuationFrames, x_frameTasks, x_frameForms, x_frameValues, x_framePlaces, x_frameNexts, x_arguments, x_outputs, x_itemKinds, x_itemNumbers, x_openLists) (y_size, y_pairs, y_open, y_formCount, y_places, y_procedures, y_continuationCount, y_things, y_foundCount, y_argumentCount, y_value, y_form, y_wherein, y_next, y_working, y_ending, y_counts, y_made, y_entered, y_printCount, y_itemCount, y_text, y_firsts, y_rests, y_heads, y_lasts, y_globals, y_placeNames, y_placeValues, y_placeNexts, y_procedureForms, y_procedurePlaces, y_continuations, y_whats, y_withs, y_whereins, y_soFars, y_afters, y_found, y_foundNexts, y_arguments, y_prints, y_itemKinds, y_itemNumbers, y_pile)) (hb : fo ≤ co ∧ nf ≤ co) (hx : x_ending = -1) (hy : y_ending = -1000000003) (hV : zv_V M np nc y x) (hf : x_frame = y_next) (hb2 : b ≤ nf) (hf2 : fm_N b y_next) :
    ∃ f, f ≤ b ∧ sm_V T n co f (x_textLength, x_pairCount, x_placeCount, x_procedureCount, x_continuationCount, x_frameCount, 2, x_ending, x_form, x_environment, x_frame, x, x_applied, x_argumentCount, x_countedCount, x_consCount, x_entryCount, x_outputCount, x_itemCount, x_text, x_firsts, x_rests, x_placeNames, x_placeValues, x_placeOuters, x_procedureParts, x_procedurePlaces, x_continuationFrames, x_frameTasks, x_frameForms, x_frameValues, x_framePlaces, x_frameNexts, x_arguments, x_outputs, x_itemKinds, x_itemNumbers, x_openLists) (y_size, y_pairs, y_open, y_formCount, y_places, y_procedures, y_continuationCount, y_things, y_foundCount, y_argumentCount, y, y_form, y_wherein, y_next, 0, y_ending, y_counts, y_made, y_entered, y_printCount, y_itemCount, y_text, y_firsts, y_rests, y_heads, y_lasts, y_globals, y_placeNames, y_placeValues, y_placeNexts, y_procedureForms, y_procedurePlaces, y_continuations, y_whats, y_withs, y_whereins, y_soFars, y_afters, y_found, y_foundNexts, y_arguments, y_prints, y_itemKinds, y_itemNumbers, y_pile) := by
  rcases hf2 with z | ⟨m, m1, z⟩
  · exact ⟨0, by omega, M, G, px, py, pl, np, nc, nf, fo, cn, et, pc, h, hb, rfl, hx, hy, rfl, hV, hf, Or.inl ⟨rfl, z⟩⟩
  · exact ⟨m + 1, by omega, M, G, px, py, pl, np, nc, nf, fo, cn, et, pc, h, hb, rfl, hx, hy, rfl, hV, hf, Or.inr ⟨m, by omega, rfl, z⟩⟩
theorem zv_Vnoth : zv_V M np nc (zv_c 8 0) (zv_c 8 0) := ⟨8, 0, 8, 0, by decide, by decide, rfl, rfl, Or.inr (Or.inr (Or.inr (Or.inr (Or.inr (Or.inr (Or.inr (Or.inr ⟨rfl, rfl, rfl, rfl⟩)))))))⟩
/-- where goOn may lead -/
def sm_go (T : Nat → Nat) (n co m : Nat) (u : SX) (v : SY) : Prop := sm_E T n u v ∨ sm_F T n co u v ∨ ∃ f, f ≤ m ∧ sm_V T n co f u v
theorem st_V0 {p : Nat} (h : sm_R T n M G px py pl np nc nf fo co cn et pc (x_textLength, x_pairCount, x_placeCount, x_procedureCount, x_continuationCount, x_frameCount, x_state, -1, x_form, x_environment, nI m, x_value, x_applied, x_argumentCount, x_countedCount, x_consCount, x_entryCount, x_outputCount, x_itemCount, x_text, x_firsts, x_rests, x_placeNames, x_placeValues, x_placeOuters, x_procedureParts, x_procedurePlaces, x_continuationFrames, x_frameTasks, x_frameForms, x_frameValues, x_framePlaces, x_frameNexts, x_arguments, x_outputs, x_itemKinds, x_itemNumbers, x_openLists) (y_size, y_pairs, y_open, y_formCount, y_places, y_procedures, y_continuationCount, y_things, y_foundCount, y_argumentCount, y_value, y_form, y_wherein, nI m, 0, -1000000003, y_counts, y_made, y_entered, y_printCount, y_itemCount, y_text, y_firsts, y_rests, y_heads, y_lasts, y_globals, y_placeNames, y_placeValues, y_placeNexts, y_procedureForms, y_procedurePlaces, y_continuations, y_whats, y_withs, y_whereins, y_soFars, y_afters, y_found, y_foundNexts, y_arguments, y_prints, y_itemKinds, y_itemNumbers, y_pile)) (hb : fo ≤ co ∧ nf ≤ co) (hm : m < nf) (he : en_R pl (y_whereins m) (x_framePlaces m)) (hf : fm_N m (y_afters m)) (hn : x_frameNexts m = y_afters m)
    (h1 : y_whats m = nI 0) (h2 : x_frameTasks m = nI 0) (h3 : ls_P T n p) (h4 : p < n) (h5 : T p ≠ 1) (h6 : y_withs m = cd_yl T n p) (h7 : x_frameForms m = cd_xl T n p) :
    ∃ u' v', (∀ post : SX → Prop, post u' → wpX_goOn post (x_textLength, x_pairCount, x_placeCount, x_procedureCount, x_continuationCount, x_frameCount, x_state, -1, x_form, x_environment, nI m, x_value, x_applied, x_argumentCount, x_countedCount, x_consCount, x_entryCount, x_outputCount, x_itemCount, x_text, x_firsts, x_rests, x_placeNames, x_placeValues, x_placeOuters, x_procedureParts, x_procedurePlaces, x_continuationFrames, x_frameTasks, x_frameForms, x_frameValues, x_framePlaces, x_frameNexts, x_arguments, x_outputs, x_itemKinds, x_itemNumbers, x_openLists)) ∧ (∀ post : SY → Prop, post v' → wpY_goOn post (y_size, y_pairs, y_open, y_formCount, y_places, y_procedures, y_continuationCount, y_things, y_foundCount, y_argumentCount, y_value, y_form, y_wherein, nI m, 0, -1000000003, y_counts, y_made, y_entered, y_printCount, y_itemCount, y_text, y_firsts, y_rests, y_heads, y_lasts, y_globals, y_placeNames, y_placeValues, y_placeNexts, y_procedureForms, y_procedurePlaces, y_continuations, y_whats, y_withs, y_whereins, y_soFars, y_afters, y_found, y_foundNexts, y_arguments, y_prints, y_itemKinds, y_itemNumbers, y_pile)) ∧ sm_go T n co m u' v' := by
  have hco : co ≤ 600 := h.2.2.2.1.1
  have e : (nI m).toNatClampNeg = m := nI_clamp (by omega)
  have hi : vp_in (nI m) 700 := vp_in_nI (by omega) (by decide)
  have hj : vp_in (nI m) 3400 := vp_in_nI (by omega) (by decide)
  have h' : sm_R T n M G px py pl np nc nf fo co cn et pc (x_textLength, x_pairCount, x_placeCount, x_procedureCount, x_continuationCount, x_frameCount, x_state, -1, x_form, x_framePlaces m, x_frameNexts m, x_value, x_applied, x_argumentCount, x_countedCount, x_consCount, x_entryCount, x_outputCount, x_itemCount, x_text, x_firsts, x_rests, x_placeNames, x_placeValues, x_placeOuters, x_procedureParts, x_procedurePlaces, x_continuationFrames, x_frameTasks, x_frameForms, x_frameValues, x_framePlaces, x_frameNexts, x_arguments, x_outputs, x_itemKinds, x_itemNumbers, x_openLists) (y_size, y_pairs, y_open, y_formCount, y_places, y_procedures, y_continuationCount, y_things, y_foundCount, y_argumentCount, y_value, y_form, y_wherein, y_afters m, 0, -1000000003, y_counts, y_made, y_entered, y_printCount, y_itemCount, y_text, y_firsts, y_rests, y_heads, y_lasts, y_globals, y_placeNames, y_placeValues, y_placeNexts, y_procedureForms, y_procedurePlaces, y_continuations, y_whats, y_withs, y_whereins, y_soFars, y_afters, y_found, y_foundNexts, y_arguments, y_prints, y_itemKinds, y_itemNumbers, y_pile) := rk_ig h
  obtain ⟨u', v', hX, hY, hF⟩ := sm_all (w := y_whereins m) h' rfl rfl (by omega) he hn (fm_mono (by omega) hf) h3 h4 h5
  refine ⟨u', v', fun post hp => ?_, fun post hp => ?_, Or.inr (Or.inl hF)⟩
  · refine br_f (ap_m1 (by omega)) ⟨hi, nm_r ((cl_R e).trans h7) ⟨hi, nm_r (cl_R e) ⟨hi, nm_r (cl_R e) ⟨hi, nm_r ((cl_R e).trans h2) (br_f (by decide) (br_f (by decide) (br_t rfl (hX _ ?_))))⟩⟩⟩⟩
    obtain ⟨x_textLength, x_pairCount, x_placeCount, x_procedureCount, x_continuationCount, x_frameCount, x_state, x_ending, x_form, x_environment, x_frame, x_value, x_applied, x_argumentCount, x_countedCount, x_consCount, x_entryCount, x_outputCount, x_itemCount, x_text, x_firsts, x_rests, x_placeNames, x_placeValues, x_placeOuters, x_procedureParts, x_procedurePlaces, x_continuationFrames, x_frameTasks, x_frameForms, x_frameValues, x_framePlaces, x_frameNexts, x_arguments, x_outputs, x_itemKinds, x_itemNumbers, x_openLists⟩ := u'
    exact hp
  · have ew : y_whats (nI m).toNatClampNeg = 0 := (cl_R e).trans h1
    refine ⟨hj, nm_r ((cl_R e).trans h6) ⟨hj, nm_r (cl_R e) ⟨hj, nm_r (cl_R e) ⟨hj, br_t ew (hY _ ?_)⟩⟩⟩⟩
    obtain ⟨y_size, y_pairs, y_open, y_formCount, y_places, y_procedures, y_continuationCount, y_things, y_foundCount, y_argumentCount, y_value, y_form, y_wherein, y_next, y_working, y_ending, y_counts, y_made, y_entered, y_printCount, y_itemCount, y_text, y_firsts, y_rests, y_heads, y_lasts, y_globals, y_placeNames, y_placeValues, y_placeNexts, y_procedureForms, y_procedurePlaces, y_continuations, y_whats, y_withs, y_whereins, y_soFars, y_afters, y_found, y_foundNexts, y_arguments, y_prints, y_itemKinds, y_itemNumbers, y_pile⟩ := v'
    exact hp
theorem st_V1 {p : Nat} (h : sm_R T n M G px py pl np nc nf fo co cn et pc (x_textLength, x_pairCount, x_placeCount, x_procedureCount, x_continuationCount, x_frameCount, x_state, -1, x_form, x_environment, nI m, x_value, x_applied, x_argumentCount, x_countedCount, x_consCount, x_entryCount, x_outputCount, x_itemCount, x_text, x_firsts, x_rests, x_placeNames, x_placeValues, x_placeOuters, x_procedureParts, x_procedurePlaces, x_continuationFrames, x_frameTasks, x_frameForms, x_frameValues, x_framePlaces, x_frameNexts, x_arguments, x_outputs, x_itemKinds, x_itemNumbers, x_openLists) (y_size, y_pairs, y_open, y_formCount, y_places, y_procedures, y_continuationCount, y_things, y_foundCount, y_argumentCount, y_value, y_form, y_wherein, nI m, 0, -1000000003, y_counts, y_made, y_entered, y_printCount, y_itemCount, y_text, y_firsts, y_rests, y_heads, y_lasts, y_globals, y_placeNames, y_placeValues, y_placeNexts, y_procedureForms, y_procedurePlaces, y_continuations, y_whats, y_withs, y_whereins, y_soFars, y_afters, y_found, y_foundNexts, y_arguments, y_prints, y_itemKinds, y_itemNumbers, y_pile)) (hb : fo ≤ co ∧ nf ≤ co) (hV : zv_V M np nc y_value x_value) (hm : m < nf) (he : en_R pl (y_whereins m) (x_framePlaces m)) (hf : fm_N m (y_afters m)) (hn : x_frameNexts m = y_afters m)
    (h1 : y_whats m = nI 1) (h2 : x_frameTasks m = nI 1) (h3 : ls_P T n p) (h4 : p < n) (h5 : T p ≠ 1) (h6 : y_withs m = cd_yl T n p) (h7 : x_frameForms m = cd_xl T n p) :
    ∃ u' v', (∀ post : SX → Prop, post u' → wpX_goOn post (x_textLength, x_pairCount, x_placeCount, x_procedureCount, x_continuationCount, x_frameCount, x_state, -1, x_form, x_environment, nI m, x_value, x_applied, x_argumentCount, x_countedCount, x_consCount, x_entryCount, x_outputCount, x_itemCount, x_text, x_firsts, x_rests, x_placeNames, x_placeValues, x_placeOuters, x_procedureParts, x_procedurePlaces, x_continuationFrames, x_frameTasks, x_frameForms, x_frameValues, x_framePlaces, x_frameNexts, x_arguments, x_outputs, x_itemKinds, x_itemNumbers, x_openLists)) ∧ (∀ post : SY → Prop, post v' → wpY_goOn post (y_size, y_pairs, y_open, y_formCount, y_places, y_procedures, y_continuationCount, y_things, y_foundCount, y_argumentCount, y_value, y_form, y_wherein, nI m, 0, -1000000003, y_counts, y_made, y_entered, y_printCount, y_itemCount, y_text, y_firsts, y_rests, y_heads, y_lasts, y_globals, y_placeNames, y_placeValues, y_placeNexts, y_procedureForms, y_procedurePlaces, y_continuations, y_whats, y_withs, y_whereins, y_soFars, y_afters, y_found, y_foundNexts, y_arguments, y_prints, y_itemKinds, y_itemNumbers, y_pile)) ∧ sm_go T n co m u' v' := by
  have hr := h
  obtain ⟨a0, _, _, b0, c1, c2, _⟩ := hr
  have hR := a0.1
  have hbb := c2.1.2.2.2.2.2
  have e : (nI m).toNatClampNeg = m := nI_clamp (by omega)
  have hi : vp_in (nI m) 700 := vp_in_nI (by omega) (by decide)
  have hj : vp_in (nI m) 3400 := vp_in_nI (by omega) (by decide)
  have ew : y_whats (nI m).toNatClampNeg = 1 := (cl_R e).trans h1
  have ew0 : ¬ y_whats (nI m).toNatClampNeg = 0 := by rw [ew]; decide
  obtain ⟨e1, e2, e3, e4, e5, e6⟩ := cd_cell c1 hbb h4 h5 h3.2.2 (pz_CL_nD0 h3.2.1)
  rw [cd_yl_p h4 h5] at h6
  rw [cd_xl_p h4 h5] at h7
  have hin : vp_in (zv_c 2 (pz_AX T n 0 p)).toInt32 1400 := zv_in (by omega) (by decide)
  have hcl : (zv_c 2 (pz_AX T n 0 p)).toInt32.toNatClampNeg = pz_AX T n 0 p := zv_cl (by omega)
  have hls := ls_nx hR h3 h4 h5
  obtain ⟨t, k, s, l, v1, v2, v3, v4, vK⟩ := hV
  have vb := zv_K_b vK
  have vp := zv_K_p vK
  subst v3 v4
  by_cases hfal : t = 1 ∧ k = 0
  · obtain ⟨rfl, rfl⟩ := hfal
    have hfal : 1 = 1 ∧ 0 = 0 := ⟨rfl, rfl⟩
    have hxf : zv_c s l = 17179869184 := by
      rw [zk_xF]
      have := vp.2.2.2.2.2.1.mp hfal.1
      have := vp.2.2.2.2.2.2.2 (by omega)
      rw [zv_eq (by omega) v2 (by decide) (by decide)]
      omega
    by_cases c : pz_nx T n p < n ∧ T (pz_nx T n p) ≠ 1
    · obtain ⟨r1, r2, r3, r4, r5, r6⟩ := cd_cell c1 hbb c.1 c.2 hls.2.2 (pz_CL_nD0 hls.2.1)
      have hin' : vp_in (zv_c 2 (pz_AX T n 0 (pz_nx T n p))).toInt32 1400 := zv_in (by omega) (by decide)
      have hcl' : (zv_c 2 (pz_AX T n 0 (pz_nx T n p))).toInt32.toNatClampNeg = pz_AX T n 0 (pz_nx T n p) := zv_cl (by omega)
      have e6' := e6.trans (cd_xl_p c.1 c.2)
      have e4' := e4.trans (cd_yl_p c.1 c.2)
      refine ⟨(x_textLength, x_pairCount, x_placeCount, x_procedureCount, x_continuationCount, x_frameCount, 0, -1, cd_xv T n (pz_nx T n p), x_framePlaces m, x_frameNexts m, zv_c s l, x_applied, x_argumentCount, x_countedCount, x_consCount, x_entryCount, x_outputCount, x_itemCount, x_text, x_firsts, x_rests, x_placeNames, x_placeValues, x_placeOuters, x_procedureParts, x_procedurePlaces, x_continuationFrames, x_frameTasks, x_frameForms, x_frameValues, x_framePlaces, x_frameNexts, x_arguments, x_outputs, x_itemKinds, x_itemNumbers, x_openLists), (y_size, y_pairs, y_open, y_formCount, y_places, y_procedures, y_continuationCount, y_things, y_foundCount, y_argumentCount, zv_c 1 0, cd_yv T n (pz_nx T n p), y_whereins m, y_afters m, 1, -1000000003, y_counts, y_made, y_entered, y_printCount, y_itemCount, y_text, y_firsts, y_rests, y_heads, y_lasts, y_globals, y_placeNames, y_placeValues, y_placeNexts, y_procedureForms, y_procedurePlaces, y_continuations, y_whats, y_withs, y_whereins, y_soFars, y_afters, y_found, y_foundNexts, y_arguments, y_prints, y_itemKinds, y_itemNumbers, y_pile), fun post hp => ?_, fun post hp => ?_,
        Or.inr (Or.inl ⟨M, G, px, py, pl, np, nc, nf, fo, cn, et, pc, _, rk_ig h, by omega, rfl, rfl, rfl, rfl, ⟨c.1, c.2, ls_CF hls⟩, rfl, rfl, he, hn, fm_mono (by omega) hf⟩)⟩
      · refine br_f (ap_m1 (by omega)) ⟨hi, nm_r ((cl_R e).trans h7) ⟨hi, nm_r (cl_R e) ⟨hi, nm_r (cl_R e) ⟨hi, nm_r ((cl_R e).trans h2) (br_f (by decide) (br_f (by decide) (br_f (by decide) (br_t rfl ?_))))⟩⟩⟩⟩
        refine ⟨hin, nm_r ((cl_R hcl).trans e6') (br_t hxf (br_f ?_ ⟨hin', nm_r ((cl_R hcl').trans r5) hp⟩))⟩
        rw [zk_xE]
        exact ch_X0 (B := px) (by omega) _ r2
      · refine ⟨hj, nm_r ((cl_R e).trans h6) ⟨hj, nm_r (cl_R e) ⟨hj, nm_r (cl_R e) ⟨hj, br_f ew0 ⟨hj, br_t ew ?_⟩⟩⟩⟩⟩
        refine ys_tag (by decide) v1 (br_t rfl (br_t (by rw [zv_lo]; rfl) ?_))
        unfold wY_goOn_84
        refine ys_restOf (by omega) ?_
        rw [e4']
        refine br_f (by decide) (ys_isPair_t (by omega) (br_f (by decide) (ys_firstOf (by omega) ?_)))
        rw [r3]
        exact hp
    · obtain ⟨f, hf9, hv⟩ := sm_mkVb (y := zv_c 8 0) (x := zv_c 8 0) (show sm_R T n M G px py pl np nc nf fo co cn et pc (x_textLength, x_pairCount, x_placeCount, x_procedureCount, x_continuationCount, x_frameCount, x_state, -1, x_form, x_framePlaces m, x_frameNexts m, zv_c s l, x_applied, x_argumentCount, x_countedCount, x_consCount, x_entryCount, x_outputCount, x_itemCount, x_text, x_firsts, x_rests, x_placeNames, x_placeValues, x_placeOuters, x_procedureParts, x_procedurePlaces, x_continuationFrames, x_frameTasks, x_frameForms, x_frameValues, x_framePlaces, x_frameNexts, x_arguments, x_outputs, x_itemKinds, x_itemNumbers, x_openLists) (y_size, y_pairs, y_open, y_formCount, y_places, y_procedures, y_continuationCount, y_things, y_foundCount, y_argumentCount, zv_c 1 0, y_form, y_wherein, y_afters m, 0, -1000000003, y_counts, y_made, y_entered, y_printCount, y_itemCount, y_text, y_firsts, y_rests, y_heads, y_lasts, y_globals, y_placeNames, y_placeValues, y_placeNexts, y_procedureForms, y_procedurePlaces, y_continuations, y_whats, y_withs, y_whereins, y_soFars, y_afters, y_found, y_foundNexts, y_arguments, y_prints, y_itemKinds, y_itemNumbers, y_pile) from rk_ig h) hb rfl rfl zv_Vnoth hn (Nat.le_of_lt hm) hf
      refine ⟨_, _, fun post hp => ?_, fun post hp => ?_, Or.inr (Or.inr ⟨f, hf9, hv⟩)⟩
      · refine br_f (ap_m1 (by omega)) ⟨hi, nm_r ((cl_R e).trans h7) ⟨hi, nm_r (cl_R e) ⟨hi, nm_r (cl_R e) ⟨hi, nm_r ((cl_R e).trans h2) (br_f (by decide) (br_f (by decide) (br_f (by decide) (br_t rfl ?_))))⟩⟩⟩⟩
        refine ⟨hin, nm_r ((cl_R hcl).trans e6) (br_t hxf (br_t (by rw [cd_xl_e c, zk_xE]) ?_))⟩
        rw [zk_xN]
        exact hp
      · refine ⟨hj, nm_r ((cl_R e).trans h6) ⟨hj, nm_r (cl_R e) ⟨hj, nm_r (cl_R e) ⟨hj, br_f ew0 ⟨hj, br_t ew ?_⟩⟩⟩⟩⟩
        refine ys_tag (by decide) v1 (br_t rfl (br_t (by rw [zv_lo]; rfl) ?_))
        unfold wY_goOn_84
        refine ys_restOf (by omega) ?_
        rw [e4, cd_yl_e c]
        exact br_f (by decide) (ys_isPair_f (by decide) (by decide) (by decide) (br_t rfl (ys_thing (t := 8) (k := 0) rfl rfl (by decide) (by decide) hp)))
  · have hxf : ¬ zv_c s l = 17179869184 := by
      rw [zk_xF, zv_eq (by omega) v2 (by decide) (by decide)]
      intro z
      have := vp.2.2.2.2.2.1.mpr z.1
      have := vp.2.2.2.2.2.2.2 (by omega)
      omega
    refine ⟨(x_textLength, x_pairCount, x_placeCount, x_procedureCount, x_continuationCount, x_frameCount, 0, -1, cd_xv T n p, x_framePlaces m, x_frameNexts m, zv_c s l, x_applied, x_argumentCount, x_countedCount, x_consCount, x_entryCount, x_outputCount, x_itemCount, x_text, x_firsts, x_rests, x_placeNames, x_placeValues, x_placeOuters, x_procedureParts, x_procedurePlaces, x_continuationFrames, x_frameTasks, x_frameForms, x_frameValues, x_framePlaces, x_frameNexts, x_arguments, x_outputs, x_itemKinds, x_itemNumbers, x_openLists), (y_size, y_pairs, y_open, y_formCount, y_places, y_procedures, y_continuationCount, y_things, y_foundCount, y_argumentCount, zv_c t k, cd_yv T n p, y_whereins m, y_afters m, 1, -1000000003, y_counts, y_made, y_entered, y_printCount, y_itemCount, y_text, y_firsts, y_rests, y_heads, y_lasts, y_globals, y_placeNames, y_placeValues, y_placeNexts, y_procedureForms, y_procedurePlaces, y_continuations, y_whats, y_withs, y_whereins, y_soFars, y_afters, y_found, y_foundNexts, y_arguments, y_prints, y_itemKinds, y_itemNumbers, y_pile), fun post hp => ?_, fun post hp => ?_,
      Or.inr (Or.inl ⟨M, G, px, py, pl, np, nc, nf, fo, cn, et, pc, p, rk_ig h, by omega, rfl, rfl, rfl, rfl, ⟨h4, h5, ls_CF h3⟩, rfl, rfl, he, hn, fm_mono (by omega) hf⟩)⟩
    · refine br_f (ap_m1 (by omega)) ⟨hi, nm_r ((cl_R e).trans h7) ⟨hi, nm_r (cl_R e) ⟨hi, nm_r (cl_R e) ⟨hi, nm_r ((cl_R e).trans h2) (br_f (by decide) (br_f (by decide) (br_f (by decide) (br_t rfl ?_))))⟩⟩⟩⟩
      exact ⟨hin, nm_e (br_f hxf ⟨hin, nm_r ((cl_R hcl).trans e5) hp⟩)⟩
    · have h84 : wY_goOn_84 post (zv_c 3 (pz_AY T n 0 p)) (y_whereins m) 0 y_size y_pairs y_open y_formCount y_places y_procedures y_continuationCount y_things y_foundCount y_argumentCount (zv_c t k) y_form y_wherein (y_afters m) 0 (-1000000003) y_counts y_made y_entered y_printCount y_itemCount y_text y_firsts y_rests y_heads y_lasts y_globals y_placeNames y_placeValues y_placeNexts y_procedureForms y_procedurePlaces y_continuations y_whats y_withs y_whereins y_soFars y_afters y_found y_foundNexts y_arguments y_prints y_itemKinds y_itemNumbers y_pile := by
        unfold wY_goOn_84
        refine ys_restOf (by omega) (br_t rfl (ys_firstOf (by omega) ?_))
        rw [e3]
        exact hp
      refine ⟨hj, nm_r ((cl_R e).trans h6) ⟨hj, nm_r (cl_R e) ⟨hj, nm_r (cl_R e) ⟨hj, br_f ew0 ⟨hj, br_t ew ?_⟩⟩⟩⟩⟩
      refine ys_tag (by omega) v1 ?_
      by_cases z : t = 1
      · have hk : k < 2 := by rcases vK with w | w | w | w | w | w | w | w | w <;> omega
        exact br_t (by rw [z]; rfl) (br_f (by rw [zv_lo]; exact ne_I (b := 0) (by omega) (by omega) (by decide)) h84)
      · exact br_f (ne_I (b := 1) z (by omega) (by decide)) h84
end
end
section
/-! a value is given: define, set -/
section
variable {x_textLength : Int32} {x_pairCount : Int32} {x_placeCount : Int32} {x_procedureCount : Int32} {x_continuationCount : Int32} {x_frameCount : Int32} {x_state : Int32} {x_ending : Int32} {x_form : Int64} {x_environment : Int32} {x_frame : Int32} {x_value : Int64} {x_applied : Int64} {x_argumentCount : Int32} {x_countedCount : Int32} {x_consCount : Int32} {x_entryCount : Int32} {x_outputCount : Int32} {x_itemCount : Int32} {x_text : Nat → Int32} {x_firsts : Nat → Int64} {x_rests : Nat → Int64} {x_placeNames : Nat → Int32} {x_placeValues : Nat → Int64} {x_placeOuters : Nat → Int32} {x_procedureParts : Nat → Int64} {x_procedurePlaces : Nat → Int32} {x_continuationFrames : Nat → Int32} {x_frameTasks : Nat → Int32} {x_frameForms : Nat → Int64} {x_frameValues : Nat → Int64} {x_framePlaces : Nat → Int32} {x_frameNexts : Nat → Int32} {x_arguments : Nat → Int64} {x_outputs : Nat → Int32} {x_itemKinds : Nat → Int32} {x_itemNumbers : Nat → Int32} {x_openLists : Nat → Int64}
variable {y_size : Int32} {y_pairs : Int32} {y_open : Int32} {y_formCount : Int32} {y_places : Int32} {y_procedures : Int32} {y_continuationCount : Int32} {y_things : Int32} {y_foundCount : Int32} {y_argumentCount : Int32} {y_value : Int64} {y_form : Int64} {y_wherein : Int32} {y_next : Int32} {y_working : Int32} {y_ending : Int32} {y_counts : Int32} {y_made : Int32} {y_entered : Int32} {y_printCount : Int32} {y_itemCount : Int32} {y_text : Nat → Int32} {y_firsts : Nat → Int64} {y_rests : Nat → Int64} {y_heads : Nat → Int32} {y_lasts : Nat → Int32} {y_globals : Nat → Int64} {y_placeNames : Nat → Int32} {y_placeValues : Nat → Int64} {y_placeNexts : Nat → Int32} {y_procedureForms : Nat → Int64} {y_procedurePlaces : Nat → Int32} {y_continuations : Nat → Int32} {y_whats : Nat → Int32} {y_withs : Nat → Int64} {y_whereins : Nat → Int32} {y_soFars : Nat → Int32} {y_afters : Nat → Int32} {y_found : Nat → Int64} {y_foundNexts : Nat → Int32} {y_arguments : Nat → Int64} {y_prints : Nat → Int32} {y_itemKinds : Nat → Int32} {y_itemNumbers : Nat → Int32} {y_pile : Nat → Int64}
variable {T : Nat → Nat} {n px py pl np nc nf fo co cn et pc m : Nat} {M : Nat → Nat → Prop} {G : Nat → Nat}
theorem sm_Eg {e : Nat} {q1 q4 q5 q8 : Int32} {q3 q6 q7 : Int64} {q9 : Nat → Int64} {r3 r6 r7 r8 : Int32} {r4 r5 : Int64} {r13 r17 : Nat → Int64} (h : sm_R T n M G px py pl np nc nf fo co cn et pc (x_textLength, x_pairCount, x_placeCount, x_procedureCount, x_continuationCount, x_frameCount, x_state, x_ending, x_form, x_environment, x_frame, x_value, x_applied, x_argumentCount, x_countedCount, x_consCount, x_entryCount, x_outputCount, x_itemCount, x_text, x_firsts, x_rests, x_placeNames, x_placeValues, x_placeOuters, x_procedureParts, x_procedurePlaces, x_continuationFrames, x_frameTasks, x_frameForms, x_frameValues, x_framePlaces, x_frameNexts, x_arguments, x_outputs, x_itemKinds, x_itemNumbers, x_openLists) (y_size, y_pairs, y_open, y_formCount, y_places, y_procedures, y_continuationCount, y_things, y_foundCount, y_argumentCount, y_value, y_form, y_wherein, y_next, y_working, y_ending, y_counts, y_made, y_entered, y_printCount, y_itemCount, y_text, y_firsts, y_rests, y_heads, y_lasts, y_globals, y_placeNames, y_placeValues, y_placeNexts, y_procedureForms, y_procedurePlaces, y_continuations, y_whats, y_withs, y_whereins, y_soFars, y_afters, y_found, y_foundNexts, y_arguments, y_prints, y_itemKinds, y_itemNumbers, y_pile)) (h1 : 1 ≤ e) (h2 : e ≤ 8) :
    sm_E T n (x_textLength, x_pairCount, x_placeCount, x_procedureCount, x_continuationCount, x_frameCount, q1, nI e, q3, q4, q5, q6, q7, q8, x_countedCount, x_consCount, x_entryCount, x_outputCount, x_itemCount, x_text, x_firsts, x_rests, x_placeNames, x_placeValues, x_placeOuters, x_procedureParts, x_procedurePlaces, x_continuationFrames, x_frameTasks, x_frameForms, x_frameValues, x_framePlaces, x_frameNexts, q9, x_outputs, x_itemKinds, x_itemNumbers, x_openLists) (y_size, y_pairs, y_open, y_formCount, y_places, y_procedures, y_continuationCount, y_things, y_foundCount, r3, r4, r5, r6, r7, r8, nI e, y_counts, y_made, y_entered, y_printCount, y_itemCount, y_text, y_firsts, y_rests, y_heads, y_lasts, r17, y_placeNames, y_placeValues, y_placeNexts, y_procedureForms, y_procedurePlaces, y_continuations, y_whats, y_withs, y_whereins, y_soFars, y_afters, y_found, y_foundNexts, r13, y_prints, y_itemKinds, y_itemNumbers, y_pile) := by
  obtain ⟨a, ⟨n1, n2, n3, n4, n5, n6, n7, n8, n9, n10, n11⟩, ⟨m1, m2, m3, m4, m5, m6, m7, m8, m9, m10, m11⟩, b, c1, c2, c3, c4, c5, c6, c7, c8⟩ := h
  exact ⟨e, pc, ⟨a.2.1, a.2.2.1, n1, m1, a.2.2.2⟩, h1, h2, by omega, rfl, rfl, n7.trans m8.symm, n8.trans m9.symm, n9.trans m10.symm, n10, m11, c8, n11⟩
theorem st_V2 {k : Nat} (h : sm_R T n M G px py pl np nc nf fo co cn et pc (x_textLength, x_pairCount, x_placeCount, x_procedureCount, x_continuationCount, x_frameCount, x_state, -1, x_form, x_environment, nI m, x_value, x_applied, x_argumentCount, x_countedCount, x_consCount, x_entryCount, x_outputCount, x_itemCount, x_text, x_firsts, x_rests, x_placeNames, x_placeValues, x_placeOuters, x_procedureParts, x_procedurePlaces, x_continuationFrames, x_frameTasks, x_frameForms, x_frameValues, x_framePlaces, x_frameNexts, x_arguments, x_outputs, x_itemKinds, x_itemNumbers, x_openLists) (y_size, y_pairs, y_open, y_formCount, y_places, y_procedures, y_continuationCount, y_things, y_foundCount, y_argumentCount, y_value, y_form, y_wherein, nI m, 0, -1000000003, y_counts, y_made, y_entered, y_printCount, y_itemCount, y_text, y_firsts, y_rests, y_heads, y_lasts, y_globals, y_placeNames, y_placeValues, y_placeNexts, y_procedureForms, y_procedurePlaces, y_continuations, y_whats, y_withs, y_whereins, y_soFars, y_afters, y_found, y_foundNexts, y_arguments, y_prints, y_itemKinds, y_itemNumbers, y_pile)) (hb : fo ≤ co ∧ nf ≤ co) (hV : zv_V M np nc y_value x_value) (hm : m < nf) (hf : fm_N m (y_afters m)) (hn : x_frameNexts m = y_afters m)
    (h1 : y_whats m = nI 2) (h2 : x_frameTasks m = nI 2) (h3 : 30 ≤ k) (h4 : k ≤ 39) (h6 : y_withs m = zv_c 4 k) (h7 : x_frameForms m = zv_c 1 k) :
    ∃ u' v', (∀ post : SX → Prop, post u' → wpX_goOn post (x_textLength, x_pairCount, x_placeCount, x_procedureCount, x_continuationCount, x_frameCount, x_state, -1, x_form, x_environment, nI m, x_value, x_applied, x_argumentCount, x_countedCount, x_consCount, x_entryCount, x_outputCount, x_itemCount, x_text, x_firsts, x_rests, x_placeNames, x_placeValues, x_placeOuters, x_procedureParts, x_procedurePlaces, x_continuationFrames, x_frameTasks, x_frameForms, x_frameValues, x_framePlaces, x_frameNexts, x_arguments, x_outputs, x_itemKinds, x_itemNumbers, x_openLists)) ∧ (∀ post : SY → Prop, post v' → wpY_goOn post (y_size, y_pairs, y_open, y_formCount, y_places, y_procedures, y_continuationCount, y_things, y_foundCount, y_argumentCount, y_value, y_form, y_wherein, nI m, 0, -1000000003, y_counts, y_made, y_entered, y_printCount, y_itemCount, y_text, y_firsts, y_rests, y_heads, y_lasts, y_globals, y_placeNames, y_placeValues, y_placeNexts, y_procedureForms, y_procedurePlaces, y_continuations, y_whats, y_withs, y_whereins, y_soFars, y_afters, y_found, y_foundNexts, y_arguments, y_prints, y_itemKinds, y_itemNumbers, y_pile)) ∧ sm_go T n co m u' v' := by
  have hco : co ≤ 600 := h.2.2.2.1.1
  have e : (nI m).toNatClampNeg = m := nI_clamp (by omega)
  have hi : vp_in (nI m) 700 := vp_in_nI (by omega) (by decide)
  have hj : vp_in (nI m) 3400 := vp_in_nI (by omega) (by decide)
  have ew : y_whats (nI m).toNatClampNeg = 2 := (cl_R e).trans h1
  have ew0 : ¬ y_whats (nI m).toNatClampNeg = 0 := by rw [ew]; decide
  have ew1 : ¬ y_whats (nI m).toNatClampNeg = 1 := by rw [ew]; decide
  have ex : (zv_c 1 k).toInt32 - 30 = nI (k - 30) := by rw [zv_lo]; exact pk_sub (a := k) (b := 30) h3
  have ey : (zv_c 4 k).toInt32 - 30 = nI (k - 30) := by rw [zv_lo]; exact pk_sub (a := k) (b := 30) h3
  have ek : (nI (k - 30)).toNatClampNeg = k - 30 := nI_clamp (by omega)
  have exk : ((zv_c 1 k).toInt32 - 30).toNatClampNeg = k - 30 := by rw [ex]; exact ek
  have eyk : ((zv_c 4 k).toInt32 - 30).toNatClampNeg = k - 30 := by rw [ey]; exact ek
  have hkR := rk_glob (k := k - 30) h (by omega) hV
  obtain ⟨f, hf9, hv⟩ := sm_mkVb (y := zv_c 8 0) (x := zv_c 8 0) (show sm_R T n M G px py pl np nc nf fo co cn et pc (x_textLength, x_pairCount, x_placeCount, x_procedureCount, x_continuationCount, x_frameCount, x_state, -1, x_form, x_framePlaces m, x_frameNexts m, x_value, x_applied, x_argumentCount, x_countedCount, x_consCount, x_entryCount, x_outputCount, x_itemCount, x_text, x_firsts, x_rests, x_placeNames, vp_updL x_placeValues (k - 30) x_value, x_placeOuters, x_procedureParts, x_procedurePlaces, x_continuationFrames, x_frameTasks, x_frameForms, x_frameValues, x_framePlaces, x_frameNexts, x_arguments, x_outputs, x_itemKinds, x_itemNumbers, x_openLists) (y_size, y_pairs, y_open, y_formCount, y_places, y_procedures, y_continuationCount, y_things, y_foundCount, y_argumentCount, y_value, y_form, y_wherein, y_afters m, 0, -1000000003, y_counts, y_made, y_entered, y_printCount, y_itemCount, y_text, y_firsts, y_rests, y_heads, y_lasts, vp_updL y_globals (k - 30) y_value, y_placeNames, y_placeValues, y_placeNexts, y_procedureForms, y_procedurePlaces, y_continuations, y_whats, y_withs, y_whereins, y_soFars, y_afters, y_found, y_foundNexts, y_arguments, y_prints, y_itemKinds, y_itemNumbers, y_pile) from rk_ig hkR) hb rfl rfl zv_Vnoth hn (Nat.le_of_lt hm) hf
  refine ⟨_, _, fun post hp => ?_, fun post hp => ?_, Or.inr (Or.inr ⟨f, hf9, hv⟩)⟩
  · refine br_f (ap_m1 (by omega)) ⟨hi, nm_r ((cl_R e).trans h7) ⟨hi, nm_r (cl_R e) ⟨hi, nm_r (cl_R e) ⟨hi, nm_r ((cl_R e).trans h2) (br_f (by decide) (br_f (by decide) (br_f (by decide) (br_f (by decide) (br_t rfl ⟨by rw [ex]; exact vp_in_nI (by omega) (by decide), nm_r (cl_L exk) ?_⟩)))))⟩⟩⟩⟩
    rw [zk_xN]
    exact hp
  · exact ⟨hj, nm_r ((cl_R e).trans h6) ⟨hj, nm_r (cl_R e) ⟨hj, nm_r (cl_R e) ⟨hj, br_f ew0 ⟨hj, br_f ew1 ⟨hj, br_t ew ⟨by rw [ey]; exact vp_in_nI (by omega) (by decide), nm_r (cl_L eyk) (ys_thing (t := 8) (k := 0) rfl rfl (by decide) (by decide) hp)⟩⟩⟩⟩⟩⟩⟩
theorem st_V3 {k : Nat} (h : sm_R T n M G px py pl np nc nf fo co cn et pc (x_textLength, x_pairCount, x_placeCount, x_procedureCount, x_continuationCount, x_frameCount, x_state, -1, x_form, x_environment, nI m, x_value, x_applied, x_argumentCount, x_countedCount, x_consCount, x_entryCount, x_outputCount, x_itemCount, x_text, x_firsts, x_rests, x_placeNames, x_placeValues, x_placeOuters, x_procedureParts, x_procedurePlaces, x_continuationFrames, x_frameTasks, x_frameForms, x_frameValues, x_framePlaces, x_frameNexts, x_arguments, x_outputs, x_itemKinds, x_itemNumbers, x_openLists) (y_size, y_pairs, y_open, y_formCount, y_places, y_procedures, y_continuationCount, y_things, y_foundCount, y_argumentCount, y_value, y_form, y_wherein, nI m, 0, -1000000003, y_counts, y_made, y_entered, y_printCount, y_itemCount, y_text, y_firsts, y_rests, y_heads, y_lasts, y_globals, y_placeNames, y_placeValues, y_placeNexts, y_procedureForms, y_procedurePlaces, y_continuations, y_whats, y_withs, y_whereins, y_soFars, y_afters, y_found, y_foundNexts, y_arguments, y_prints, y_itemKinds, y_itemNumbers, y_pile)) (hb : fo ≤ co ∧ nf ≤ co) (hV : zv_V M np nc y_value x_value) (hm : m < nf) (he : en_R pl (y_whereins m) (x_framePlaces m)) (hf : fm_N m (y_afters m)) (hn : x_frameNexts m = y_afters m)
    (h1 : y_whats m = nI 3) (h2 : x_frameTasks m = nI 3) (h3 : 30 ≤ k) (h4 : k ≤ 39) (h6 : y_withs m = zv_c 4 k) (h7 : x_frameForms m = zv_c 1 k) :
    ∃ u' v', (∀ post : SX → Prop, post u' → wpX_goOn post (x_textLength, x_pairCount, x_placeCount, x_procedureCount, x_continuationCount, x_frameCount, x_state, -1, x_form, x_environment, nI m, x_value, x_applied, x_argumentCount, x_countedCount, x_consCount, x_entryCount, x_outputCount, x_itemCount, x_text, x_firsts, x_rests, x_placeNames, x_placeValues, x_placeOuters, x_procedureParts, x_procedurePlaces, x_continuationFrames, x_frameTasks, x_frameForms, x_frameValues, x_framePlaces, x_frameNexts, x_arguments, x_outputs, x_itemKinds, x_itemNumbers, x_openLists)) ∧ (∀ post : SY → Prop, post v' → wpY_goOn post (y_size, y_pairs, y_open, y_formCount, y_places, y_procedures, y_continuationCount, y_things, y_foundCount, y_argumentCount, y_value, y_form, y_wherein, nI m, 0, -1000000003, y_counts, y_made, y_entered, y_printCount, y_itemCount, y_text, y_firsts, y_rests, y_heads, y_lasts, y_globals, y_placeNames, y_placeValues, y_placeNexts, y_procedureForms, y_procedurePlaces, y_continuations, y_whats, y_withs, y_whereins, y_soFars, y_afters, y_found, y_foundNexts, y_arguments, y_prints, y_itemKinds, y_itemNumbers, y_pile)) ∧ sm_go T n co m u' v' := by
  have hr := h
  obtain ⟨a0, _, _, b0, c1, c2, c3, c4, c5, _⟩ := hr
  have e : (nI m).toNatClampNeg = m := nI_clamp (by omega)
  have hi : vp_in (nI m) 700 := vp_in_nI (by omega) (by decide)
  have hj : vp_in (nI m) 3400 := vp_in_nI (by omega) (by decide)
  have ew : y_whats (nI m).toNatClampNeg = 3 := (cl_R e).trans h1
  have ew0 : ¬ y_whats (nI m).toNatClampNeg = 0 := by rw [ew]; decide
  have ew1 : ¬ y_whats (nI m).toNatClampNeg = 1 := by rw [ew]; decide
  have ew2 : ¬ y_whats (nI m).toNatClampNeg = 2 := by rw [ew]; decide
  have ey : nI k - 30 = nI (k - 30) := pk_sub (a := k) (b := 30) h3
  have ek : (nI (k - 30)).toNatClampNeg = k - 30 := nI_clamp (by omega)
  have ekk : (nI k - 30).toNatClampNeg = k - 30 := by rw [ey]; exact ek
  have hS : sm_R T n M G px py pl np nc nf fo co cn et pc (x_textLength, x_pairCount, x_placeCount, x_procedureCount, x_continuationCount, x_frameCount, x_state, -1, x_form, x_framePlaces m, x_frameNexts m, x_value, x_applied, x_argumentCount, x_countedCount, x_consCount, x_entryCount, x_outputCount, x_itemCount, x_text, x_firsts, x_rests, x_placeNames, x_placeValues, x_placeOuters, x_procedureParts, x_procedurePlaces, x_continuationFrames, x_frameTasks, x_frameForms, x_frameValues, x_framePlaces, x_frameNexts, x_arguments, x_outputs, x_itemKinds, x_itemNumbers, x_openLists) (y_size, y_pairs, y_open, y_formCount, y_places, y_procedures, y_continuationCount, y_things, y_foundCount, y_argumentCount, y_value, y_form, y_wherein, y_afters m, 0, -1000000003, y_counts, y_made, y_entered, y_printCount, y_itemCount, y_text, y_firsts, y_rests, y_heads, y_lasts, y_globals, y_placeNames, y_placeValues, y_placeNexts, y_procedureForms, y_procedurePlaces, y_continuations, y_whats, y_withs, y_whereins, y_soFars, y_afters, y_found, y_foundNexts, y_arguments, y_prints, y_itemKinds, y_itemNumbers, y_pile) := rk_ig h
  have hX : ∀ post : SX → Prop, (∀ q : SX → Prop, (∀ u, post u → q u) → wpX_set q (x_textLength, x_pairCount, x_placeCount, x_procedureCount, x_continuationCount, x_frameCount, x_state, -1, x_form, x_framePlaces m, x_frameNexts m, x_value, x_applied, x_argumentCount, x_countedCount, x_consCount, x_entryCount, x_outputCount, x_itemCount, x_text, x_firsts, x_rests, x_placeNames, x_placeValues, x_placeOuters, x_procedureParts, x_procedurePlaces, x_continuationFrames, x_frameTasks, x_frameForms, x_frameValues, x_framePlaces, x_frameNexts, x_arguments, x_outputs, x_itemKinds, x_itemNumbers, x_openLists) (nI k)) → wpX_goOn post (x_textLength, x_pairCount, x_placeCount, x_procedureCount, x_continuationCount, x_frameCount, x_state, -1, x_form, x_environment, nI m, x_value, x_applied, x_argumentCount, x_countedCount, x_consCount, x_entryCount, x_outputCount, x_itemCount, x_text, x_firsts, x_rests, x_placeNames, x_placeValues, x_placeOuters, x_procedureParts, x_procedurePlaces, x_continuationFrames, x_frameTasks, x_frameForms, x_frameValues, x_framePlaces, x_frameNexts, x_arguments, x_outputs, x_itemKinds, x_itemNumbers, x_openLists) := by
    intro post hq
    refine br_f (ap_m1 (by omega)) ⟨hi, nm_r ((cl_R e).trans h7) ⟨hi, nm_r (cl_R e) ⟨hi, nm_r (cl_R e) ⟨hi, nm_r ((cl_R e).trans h2) (br_f (by decide) (br_f (by decide) (br_f (by decide) (br_f (by decide) (br_f (by decide) (br_t rfl ?_))))))⟩⟩⟩⟩
    rw [zv_lo]
    refine hq _ (fun u hu => ?_)
    obtain ⟨x_textLength, x_pairCount, x_placeCount, x_procedureCount, x_continuationCount, x_frameCount, x_state, x_ending, x_form, x_environment, x_frame, x_value, x_applied, x_argumentCount, x_countedCount, x_consCount, x_entryCount, x_outputCount, x_itemCount, x_text, x_firsts, x_rests, x_placeNames, x_placeValues, x_placeOuters, x_procedureParts, x_procedurePlaces, x_continuationFrames, x_frameTasks, x_frameForms, x_frameValues, x_framePlaces, x_frameNexts, x_arguments, x_outputs, x_itemKinds, x_itemNumbers, x_openLists⟩ := u
    exact hu
  have hY : ∀ post : SY → Prop, (∀ q : SY → Prop, (∀ u, post u → q u) → wpY_assign q (y_size, y_pairs, y_open, y_formCount, y_places, y_procedures, y_continuationCount, y_things, y_foundCount, y_argumentCount, y_value, y_form, y_wherein, y_afters m, 0, -1000000003, y_counts, y_made, y_entered, y_printCount, y_itemCount, y_text, y_firsts, y_rests, y_heads, y_lasts, y_globals, y_placeNames, y_placeValues, y_placeNexts, y_procedureForms, y_procedurePlaces, y_continuations, y_whats, y_withs, y_whereins, y_soFars, y_afters, y_found, y_foundNexts, y_arguments, y_prints, y_itemKinds, y_itemNumbers, y_pile) (nI k) (y_whereins m)) → wpY_goOn post (y_size, y_pairs, y_open, y_formCount, y_places, y_procedures, y_continuationCount, y_things, y_foundCount, y_argumentCount, y_value, y_form, y_wherein, nI m, 0, -1000000003, y_counts, y_made, y_entered, y_printCount, y_itemCount, y_text, y_firsts, y_rests, y_heads, y_lasts, y_globals, y_placeNames, y_placeValues, y_placeNexts, y_procedureForms, y_procedurePlaces, y_continuations, y_whats, y_withs, y_whereins, y_soFars, y_afters, y_found, y_foundNexts, y_arguments, y_prints, y_itemKinds, y_itemNumbers, y_pile) := by
    intro post hq
    refine ⟨hj, nm_r ((cl_R e).trans h6) ⟨hj, nm_r (cl_R e) ⟨hj, nm_r (cl_R e) ⟨hj, br_f ew0 ⟨hj, br_f ew1 ⟨hj, br_f ew2 ⟨hj, br_t ew ?_⟩⟩⟩⟩⟩⟩⟩
    rw [zv_lo]
    refine hq _ (fun u hu => ?_)
    obtain ⟨y_size, y_pairs, y_open, y_formCount, y_places, y_procedures, y_continuationCount, y_things, y_foundCount, y_argumentCount, y_value, y_form, y_wherein, y_next, y_working, y_ending, y_counts, y_made, y_entered, y_printCount, y_itemCount, y_text, y_firsts, y_rests, y_heads, y_lasts, y_globals, y_placeNames, y_placeValues, y_placeNexts, y_procedureForms, y_procedurePlaces, y_continuations, y_whats, y_withs, y_whereins, y_soFars, y_afters, y_found, y_foundNexts, y_arguments, y_prints, y_itemKinds, y_itemNumbers, y_pile⟩ := u
    exact hu
  rcases lk_at hS h3 h4 (by omega) pl _ _ he (Nat.le_refl _) with ⟨i, r1, r2, r3⟩ | ⟨r2, r3⟩
  · obtain ⟨_, _, hW, _⟩ := c5.2 i r1
    have hne : ¬ x_placeValues (i + 10) = -1 := by
      obtain ⟨t, q, s, l, q1, q2, _, q4, q3⟩ := hW
      have := zv_K_b q3
      rw [q4]
      exact zv_ne (by omega) q2
    have hkR := rk_loc (k := i) hS hV
    obtain ⟨f, hf9, hv⟩ := sm_mkVb (y := zv_c 8 0) (x := zv_c 8 0) hkR hb rfl rfl zv_Vnoth hn (Nat.le_of_lt hm) hf
    have ei : (nI i).toNatClampNeg = i := nI_clamp (by omega)
    have ei' : (nI (i + 10)).toNatClampNeg = i + 10 := nI_clamp (by omega)
    refine ⟨_, _, fun post hp => hX post (fun q hq => ?_), fun post hp => hY post (fun q hq => ?_), Or.inr (Or.inr ⟨f, hf9, hv⟩)⟩
    · unfold wpX_set
      refine ⟨pl + 1, r2 _ 0 (pl + 1) (by omega) (by omega) ⟨vp_in_nI (by omega) (by decide), br_f (by rw [ei']; exact hne) ⟨vp_in_nI (by omega) (by decide), nm_r (cl_L ei') ?_⟩⟩⟩
      rw [zk_xN]
      exact hq _ hp
    · unfold wpY_assign
      exact ⟨pl + 1, r3 _ (pl + 1) (by omega) (br_f (nI_pos (by omega)) ⟨vp_in_nI (by omega) (by decide), nm_r (cl_L ei) (by unfold wY_assign_67; exact ys_thing (t := 8) (k := 0) rfl rfl (by decide) (by decide) (hq _ hp))⟩)⟩
  · rcases c5.1 (k - 30) (by omega) with ⟨q1, q2⟩ | hW
    · have hE := sm_Eg (e := 3) (q1 := x_state) (q3 := x_form) (q4 := x_framePlaces m) (q5 := x_frameNexts m) (q6 := x_value) (q7 := x_applied) (q8 := x_argumentCount) (q9 := x_arguments) (r3 := y_argumentCount) (r4 := zv_c 8 0) (r5 := y_form) (r6 := y_wherein) (r7 := y_afters m) (r8 := 0) (r13 := y_arguments) (r17 := vp_updL y_globals (k - 30) y_value) hS (by decide) (by decide)
      refine ⟨_, _, fun post hp => hX post (fun q hq => ?_), fun post hp => hY post (fun q hq => ?_), Or.inl hE⟩
      · unfold wpX_set
        exact ⟨pl + 1, r2 _ 0 (pl + 1) (by omega) (by omega) ⟨vp_in_nI (by omega) (by decide), br_t (by rw [ek]; exact q2) (hq _ hp)⟩⟩
      · unfold wpY_assign
        refine ⟨pl + 1, r3 _ (pl + 1) (by omega) (br_t (by decide) ?_)⟩
        have h51 : wY_assign_51 q (nI k) 3 y_size y_pairs y_open y_formCount y_places y_procedures y_continuationCount y_things y_foundCount y_argumentCount y_value y_form y_wherein (y_afters m) 0 (-1000000003) y_counts y_made y_entered y_printCount y_itemCount y_text y_firsts y_rests y_heads y_lasts y_globals y_placeNames y_placeValues y_placeNexts y_procedureForms y_procedurePlaces y_continuations y_whats y_withs y_whereins y_soFars y_afters y_found y_foundNexts y_arguments y_prints y_itemKinds y_itemNumbers y_pile :=
          ⟨by rw [ey]; exact vp_in_nI (by omega) (by decide), nm_r (cl_L ekk) (by unfold wY_assign_67; exact ys_thing (t := 8) (k := 0) rfl rfl (by decide) (by decide) (hq _ hp))⟩
        have hg : y_globals (nI k - 30).toNatClampNeg = zv_c 9 0 := by rw [ey, ek]; exact q1
        refine ⟨by rw [ey]; exact vp_in_nI (by omega) (by decide), ?_⟩
        rw [hg]
        exact ys_tag (by decide) (by decide) (br_t rfl h51)
    · have hne : ¬ x_placeValues (k - 30) = -1 := by
        obtain ⟨t, q, s, l, q1, q2, _, q4, q3⟩ := hW
        have := zv_K_b q3
        rw [q4]
        exact zv_ne (by omega) q2
      have hkR := rk_glob (k := k - 30) hS (by omega) hV
      obtain ⟨f, hf9, hv⟩ := sm_mkVb (y := zv_c 8 0) (x := zv_c 8 0) hkR hb rfl rfl zv_Vnoth hn (Nat.le_of_lt hm) hf
      refine ⟨_, _, fun post hp => hX post (fun q hq => ?_), fun post hp => hY post (fun q hq => ?_), Or.inr (Or.inr ⟨f, hf9, hv⟩)⟩
      · unfold wpX_set
        refine ⟨pl + 1, r2 _ 0 (pl + 1) (by omega) (by omega) ⟨vp_in_nI (by omega) (by decide), br_f (by rw [ek]; exact hne) ⟨vp_in_nI (by omega) (by decide), nm_r (cl_L ek) ?_⟩⟩⟩
        rw [zk_xN]
        exact hq _ hp
      · unfold wpY_assign
        refine ⟨pl + 1, r3 _ (pl + 1) (by omega) (br_t (by decide) ?_)⟩
        have h51 : wY_assign_51 q (nI k) (-1000000003) y_size y_pairs y_open y_formCount y_places y_procedures y_continuationCount y_things y_foundCount y_argumentCount y_value y_form y_wherein (y_afters m) 0 (-1000000003) y_counts y_made y_entered y_printCount y_itemCount y_text y_firsts y_rests y_heads y_lasts y_globals y_placeNames y_placeValues y_placeNexts y_procedureForms y_procedurePlaces y_continuations y_whats y_withs y_whereins y_soFars y_afters y_found y_foundNexts y_arguments y_prints y_itemKinds y_itemNumbers y_pile :=
          ⟨by rw [ey]; exact vp_in_nI (by omega) (by decide), nm_r (cl_L ekk) (by unfold wY_assign_67; exact ys_thing (t := 8) (k := 0) rfl rfl (by decide) (by decide) (hq _ hp))⟩
        obtain ⟨t, c, s, l, v1, v2, v3, v4, vK⟩ := hW
        have vb := zv_K_b vK
        have hg : y_globals (nI k - 30).toNatClampNeg = zv_c t c := by rw [ey, ek]; exact v3
        refine ⟨by rw [ey]; exact vp_in_nI (by omega) (by decide), ?_⟩
        rw [hg]
        exact ys_tag (by omega) v1 (br_f (ne_I (b := 9) (by omega) (by omega) (by decide)) h51)
end
end
section
/-! a value is given: it is kept for an application, or the application begins -/
def fl_R (M : Nat → Nat → Prop) (np nc : Nat) (FX RX fnd : Nat → Int64) (fnx : Nat → Int32) (px fo : Nat) : Nat → Int32 → Int64 → Prop
  | 0, y, x => y = -1 ∧ x = zv_c 3 0
  | k + 1, y, x => ∃ i c, i < fo ∧ c < px ∧ y = nI i ∧ x = zv_c 2 c ∧ zv_V M np nc (fnd i) (FX c) ∧ fl_R M np nc FX RX fnd fnx px fo k (fnx i) (RX c)
section
variable {x_textLength : Int32} {x_pairCount : Int32} {x_placeCount : Int32} {x_procedureCount : Int32} {x_continuationCount : Int32} {x_frameCount : Int32} {x_state : Int32} {x_ending : Int32} {x_form : Int64} {x_environment : Int32} {x_frame : Int32} {x_value : Int64} {x_applied : Int64} {x_argumentCount : Int32} {x_countedCount : Int32} {x_consCount : Int32} {x_entryCount : Int32} {x_outputCount : Int32} {x_itemCount : Int32} {x_text : Nat → Int32} {x_firsts : Nat → Int64} {x_rests : Nat → Int64} {x_placeNames : Nat → Int32} {x_placeValues : Nat → Int64} {x_placeOuters : Nat → Int32} {x_procedureParts : Nat → Int64} {x_procedurePlaces : Nat → Int32} {x_continuationFrames : Nat → Int32} {x_frameTasks : Nat → Int32} {x_frameForms : Nat → Int64} {x_frameValues : Nat → Int64} {x_framePlaces : Nat → Int32} {x_frameNexts : Nat → Int32} {x_arguments : Nat → Int64} {x_outputs : Nat → Int32} {x_itemKinds : Nat → Int32} {x_itemNumbers : Nat → Int32} {x_openLists : Nat → Int64}
variable {y_size : Int32} {y_pairs : Int32} {y_open : Int32} {y_formCount : Int32} {y_places : Int32} {y_procedures : Int32} {y_continuationCount : Int32} {y_things : Int32} {y_foundCount : Int32} {y_argumentCount : Int32} {y_value : Int64} {y_form : Int64} {y_wherein : Int32} {y_next : Int32} {y_working : Int32} {y_ending : Int32} {y_counts : Int32} {y_made : Int32} {y_entered : Int32} {y_printCount : Int32} {y_itemCount : Int32} {y_text : Nat → Int32} {y_firsts : Nat → Int64} {y_rests : Nat → Int64} {y_heads : Nat → Int32} {y_lasts : Nat → Int32} {y_globals : Nat → Int64} {y_placeNames : Nat → Int32} {y_placeValues : Nat → Int64} {y_placeNexts : Nat → Int32} {y_procedureForms : Nat → Int64} {y_procedurePlaces : Nat → Int32} {y_continuations : Nat → Int32} {y_whats : Nat → Int32} {y_withs : Nat → Int64} {y_whereins : Nat → Int32} {y_soFars : Nat → Int32} {y_afters : Nat → Int32} {y_found : Nat → Int64} {y_foundNexts : Nat → Int32} {y_arguments : Nat → Int64} {y_prints : Nat → Int32} {y_itemKinds : Nat → Int32} {y_itemNumbers : Nat → Int32} {y_pile : Nat → Int64}
variable {T : Nat → Nat} {n px py pl np nc nf fo co cn et pc m : Nat} {M : Nat → Nat → Prop} {G : Nat → Nat}
theorem fl_ex {FX RX fnd : Nat → Int64} {fnx : Nat → Int32} (h : fd_OK T n M np nc G fo px FX RX fnd fnx) : ∀ b y x, b ≤ fo → so_R G b y x → ∃ k, k ≤ b ∧ fl_R M np nc FX RX fnd fnx px fo k y x := by
  intro b
  induction b using Nat.strongRecOn with
  | ind b ih =>
    intro y x hb hs
    rcases hs with hs | ⟨i, h1, h2, h3⟩
    · exact ⟨0, by omega, hs⟩
    · obtain ⟨g1, g2, g3, g4, g5⟩ := h i (by omega)
      obtain ⟨k, k1, k2⟩ := ih i h1 _ _ (by omega) g5
      exact ⟨k + 1, by omega, i, G i, by omega, g1, h2, h3, g4, k2⟩
theorem fl_ch {FX RX fnd : Nat → Int64} {fnx : Nat → Int32} : ∀ k y x, fl_R M np nc FX RX fnd fnx px fo k y x → ch_N RX (zv_c 2) (zv_c 3 0) px k x := by
  intro k
  induction k with
  | zero => intro y x h; exact h.2
  | succ k ih =>
    intro y x h
    obtain ⟨i, c, h1, h2, h3, h4, h5, h6⟩ := h
    exact ⟨c, h2, h4, ih _ _ h6⟩
/-- Y counts what was found -/
theorem fl_cnt {post : SY → Prop} {x1 : Int32} {ac : Nat} (hfo : fo ≤ 1700) (hp : ∃ n34 : Nat, wY_applyFound_34 post y_size y_pairs y_open y_formCount y_places y_procedures y_continuationCount y_things y_foundCount (nI ac) y_value y_form y_wherein y_next y_working y_ending y_counts y_made y_entered y_printCount y_itemCount n34 (nI ac) 0 x1 y_text y_firsts y_rests y_heads y_lasts y_globals y_placeNames y_placeValues y_placeNexts y_procedureForms y_procedurePlaces y_continuations y_whats y_withs y_whereins y_soFars y_afters y_found y_foundNexts y_arguments y_prints y_itemKinds y_itemNumbers y_pile) :
    ∀ k i y x, fl_R M np nc x_firsts x_rests y_found y_foundNexts px fo k y x → i + k = ac + 1 → wY_applyFound_4 post x1 y_size y_pairs y_open y_formCount y_places y_procedures y_continuationCount y_things y_foundCount y_argumentCount y_value y_form y_wherein y_next y_working y_ending y_counts y_made y_entered y_printCount y_itemCount y_text y_firsts y_rests y_heads y_lasts y_globals y_placeNames y_placeValues y_placeNexts y_procedureForms y_procedurePlaces y_continuations y_whats y_withs y_whereins y_soFars y_afters y_found y_foundNexts y_arguments y_prints y_itemKinds y_itemNumbers y_pile (k + 1) (nI i + (-1)) y := by
  intro k
  induction k with
  | zero =>
    intro i y x h hi
    obtain ⟨rfl, _⟩ := h
    have e : i = ac + 1 := by omega
    subst e
    rw [pk_m1]
    exact br_t (by decide) hp
  | succ k ih =>
    intro i y x h hi
    obtain ⟨j, c, h1, h2, rfl, h4, h5, h6⟩ := h
    have e : (nI j).toNatClampNeg = j := nI_clamp (by omega)
    have e2 : nI i + (-1) + 1 = nI (i + 1) + (-1) := by
      rw [pk_m1, Int32.add_assoc, show (-1 : Int32) + 1 = 0 from rfl, Int32.add_zero]
    exact br_f (nI_pos (by omega)) (nm_r e2 ⟨vp_in_nI (by omega) (by decide), nm_r (cl_R e) (ih (i + 1) _ _ h6 (by omega))⟩)
/-- both sides lay out the values -/
theorem fl_args {ac : Nat} (hfo : fo ≤ 1700) (hpx : px ≤ 1400) (hac : ac ≤ 800) :
    ∀ k y x, fl_R M np nc x_firsts x_rests y_found y_foundNexts px fo (k + 1) y x → k ≤ ac → ∀ ay ax : Nat → Int64, (∀ j, k ≤ j → j < ac → zv_V M np nc (ay j) (ax j)) →
      ∃ ay' ax' g a, zv_V M np nc g a ∧ (∀ j, j < ac → zv_V M np nc (ay' j) (ax' j)) ∧
        (∀ post : SX → Prop, post (x_textLength, x_pairCount, x_placeCount, x_procedureCount, x_continuationCount, x_frameCount, 1, x_ending, x_form, x_environment, x_frame, x_value, a, x_argumentCount, x_countedCount, x_consCount, x_entryCount, x_outputCount, x_itemCount, x_text, x_firsts, x_rests, x_placeNames, x_placeValues, x_placeOuters, x_procedureParts, x_procedurePlaces, x_continuationFrames, x_frameTasks, x_frameForms, x_frameValues, x_framePlaces, x_frameNexts, ax', x_outputs, x_itemKinds, x_itemNumbers, x_openLists) → wX_startApplication_21 post x_textLength x_pairCount x_placeCount x_procedureCount x_continuationCount x_frameCount x_state x_ending x_form x_environment x_frame x_value x_applied x_argumentCount x_countedCount x_consCount x_entryCount x_outputCount x_itemCount (k + 1) x (nI k + (-1)) x_text x_firsts x_rests x_placeNames x_placeValues x_placeOuters x_procedureParts x_procedurePlaces x_continuationFrames x_frameTasks x_frameForms x_frameValues x_framePlaces x_frameNexts ax x_outputs x_itemKinds x_itemNumbers x_openLists) ∧
        (∀ (post : SY → Prop) (z : Int64), (∃ n86 : Nat, wY_applyFound_86 post n86 g 1 y_size y_pairs y_open y_formCount y_places y_procedures y_continuationCount y_things y_foundCount y_argumentCount y_value y_form y_wherein y_next y_working y_ending y_counts y_made y_entered y_printCount y_itemCount y_text y_firsts y_rests y_heads y_lasts y_globals y_placeNames y_placeValues y_placeNexts y_procedureForms y_procedurePlaces y_continuations y_whats y_withs y_whereins y_soFars y_afters y_found y_foundNexts (ay') y_prints y_itemKinds y_itemNumbers y_pile) → wY_applyFound_34 post y_size y_pairs y_open y_formCount y_places y_procedures y_continuationCount y_things y_foundCount y_argumentCount y_value y_form y_wherein y_next y_working y_ending y_counts y_made y_entered y_printCount y_itemCount (k + 2) (nI k) z y y_text y_firsts y_rests y_heads y_lasts y_globals y_placeNames y_placeValues y_placeNexts y_procedureForms y_procedurePlaces y_continuations y_whats y_withs y_whereins y_soFars y_afters y_found y_foundNexts ay y_prints y_itemKinds y_itemNumbers y_pile) := by
  intro k
  induction k with
  | zero =>
    intro y x h hk ay ax hV
    obtain ⟨i, c, h1, h2, rfl, rfl, h5, ⟨h6, h7⟩⟩ := h
    have e : (nI i).toNatClampNeg = i := nI_clamp (by omega)
    have hcl : (zv_c 2 c).toInt32.toNatClampNeg = c := zv_cl (by omega)
    refine ⟨ay, ax, y_found i, x_firsts c, h5, fun j hj => hV j (by omega) hj, fun post hp => ?_, fun post z hp => ?_⟩
    · exact br_t (by decide) ⟨zv_in (by omega) (by decide), nm_r (cl_R hcl) hp⟩
    · exact br_f (nI_pos (by omega)) (nm_e (br_f (by decide) ⟨vp_in_nI (by omega) (by decide), nm_r (cl_R e) ⟨vp_in_nI (by omega) (by decide), nm_r ((cl_R e).trans h6) (br_t (by decide) hp)⟩⟩))
  | succ k ih =>
    intro y x h hk ay ax hV
    obtain ⟨i, c, h1, h2, rfl, rfl, h5, h6⟩ := h
    have e : (nI i).toNatClampNeg = i := nI_clamp (by omega)
    have ek : (nI k).toNatClampNeg = k := nI_clamp (by omega)
    have hcl : (zv_c 2 c).toInt32.toNatClampNeg = c := zv_cl (by omega)
    have hin : vp_in (zv_c 2 c).toInt32 1400 := zv_in (by omega) (by decide)
    obtain ⟨ay', ax', g, a, g1, g2, g3, g4⟩ := ih _ _ h6 (by omega) (vp_updL ay k (y_found i)) (vp_updL ax k (x_firsts c)) (fun j j1 j2 => by
      by_cases z : j = k
      · rw [z, pk_uLs, pk_uLs]; exact h5
      · rw [pk_uLn z, pk_uLn z]; exact hV j (by omega) j2)
    refine ⟨ay', ax', g, a, g1, g2, fun post hp => ?_, fun post z hp => ?_⟩
    · rw [pk_m1]
      refine br_f (nI_pos (by omega)) ⟨hin, vp_in_nI (by omega) (by decide), ?_⟩
      rw [hcl]
      exact nm_r (cl_L ek) ⟨hin, nm_e (nm_e (g3 post hp))⟩
    · refine br_f (nI_pos (by omega)) (nm_r (pk_m1 k) (br_t (nI_pos' (by omega)) ⟨vp_in_nI (by omega) (by decide), vp_in_nI (by omega) (by decide), ?_⟩))
      rw [e]
      exact nm_r (cl_L ek) ⟨vp_in_nI (by omega) (by decide), nm_e (g4 post z hp)⟩
theorem st_V4 {p : Nat} (h : sm_R T n M G px py pl np nc nf fo co cn et pc (x_textLength, x_pairCount, x_placeCount, x_procedureCount, x_continuationCount, x_frameCount, x_state, -1, x_form, x_environment, nI m, x_value, x_applied, x_argumentCount, x_countedCount, x_consCount, x_entryCount, x_outputCount, x_itemCount, x_text, x_firsts, x_rests, x_placeNames, x_placeValues, x_placeOuters, x_procedureParts, x_procedurePlaces, x_continuationFrames, x_frameTasks, x_frameForms, x_frameValues, x_framePlaces, x_frameNexts, x_arguments, x_outputs, x_itemKinds, x_itemNumbers, x_openLists) (y_size, y_pairs, y_open, y_formCount, y_places, y_procedures, y_continuationCount, y_things, y_foundCount, y_argumentCount, y_value, y_form, y_wherein, nI m, 0, -1000000003, y_counts, y_made, y_entered, y_printCount, y_itemCount, y_text, y_firsts, y_rests, y_heads, y_lasts, y_globals, y_placeNames, y_placeValues, y_placeNexts, y_procedureForms, y_procedurePlaces, y_continuations, y_whats, y_withs, y_whereins, y_soFars, y_afters, y_found, y_foundNexts, y_arguments, y_prints, y_itemKinds, y_itemNumbers, y_pile)) (hb : fo ≤ co ∧ nf ≤ co) (hV : zv_V M np nc y_value x_value) (hm : m < nf) (he : en_R pl (y_whereins m) (x_framePlaces m)) (hf : fm_N m (y_afters m)) (hn : x_frameNexts m = y_afters m)
    (h1 : y_whats m = 4) (h2 : x_frameTasks m = 4) (h3 : ls_P T n p) (h6 : y_withs m = cd_yl T n p) (h7 : x_frameForms m = cd_xl T n p) (h8 : so_R G fo (y_soFars m) (x_frameValues m)) :
    (∃ u' v', (∀ post : SX → Prop, post u' → wpX_goOn post (x_textLength, x_pairCount, x_placeCount, x_procedureCount, x_continuationCount, x_frameCount, x_state, -1, x_form, x_environment, nI m, x_value, x_applied, x_argumentCount, x_countedCount, x_consCount, x_entryCount, x_outputCount, x_itemCount, x_text, x_firsts, x_rests, x_placeNames, x_placeValues, x_placeOuters, x_procedureParts, x_procedurePlaces, x_continuationFrames, x_frameTasks, x_frameForms, x_frameValues, x_framePlaces, x_frameNexts, x_arguments, x_outputs, x_itemKinds, x_itemNumbers, x_openLists)) ∧ (∀ post : SY → Prop, post v' → wpY_goOn post (y_size, y_pairs, y_open, y_formCount, y_places, y_procedures, y_continuationCount, y_things, y_foundCount, y_argumentCount, y_value, y_form, y_wherein, nI m, 0, -1000000003, y_counts, y_made, y_entered, y_printCount, y_itemCount, y_text, y_firsts, y_rests, y_heads, y_lasts, y_globals, y_placeNames, y_placeValues, y_placeNexts, y_procedureForms, y_procedurePlaces, y_continuations, y_whats, y_withs, y_whereins, y_soFars, y_afters, y_found, y_foundNexts, y_arguments, y_prints, y_itemKinds, y_itemNumbers, y_pile)) ∧ sm_go T n co m u' v') ∨
    (∃ u' v' g, (∀ post : SX → Prop, post u' → wpX_goOn post (x_textLength, x_pairCount, x_placeCount, x_procedureCount, x_continuationCount, x_frameCount, x_state, -1, x_form, x_environment, nI m, x_value, x_applied, x_argumentCount, x_countedCount, x_consCount, x_entryCount, x_outputCount, x_itemCount, x_text, x_firsts, x_rests, x_placeNames, x_placeValues, x_placeOuters, x_procedureParts, x_procedurePlaces, x_continuationFrames, x_frameTasks, x_frameForms, x_frameValues, x_framePlaces, x_frameNexts, x_arguments, x_outputs, x_itemKinds, x_itemNumbers, x_openLists)) ∧ (∀ (post q : SY → Prop), (∀ v, post v → q v) → (∃ f, yA_loop post f g v') → True) ∧ (∀ post : SY → Prop, (∀ q : SY → Prop, (∀ v, post v → q v) → ∃ f, yA_loop q f g v') → wpY_goOn post (y_size, y_pairs, y_open, y_formCount, y_places, y_procedures, y_continuationCount, y_things, y_foundCount, y_argumentCount, y_value, y_form, y_wherein, nI m, 0, -1000000003, y_counts, y_made, y_entered, y_printCount, y_itemCount, y_text, y_firsts, y_rests, y_heads, y_lasts, y_globals, y_placeNames, y_placeValues, y_placeNexts, y_procedureForms, y_procedurePlaces, y_continuations, y_whats, y_withs, y_whereins, y_soFars, y_afters, y_found, y_foundNexts, y_arguments, y_prints, y_itemKinds, y_itemNumbers, y_pile)) ∧ sm_A T n co g u' v') := by
  have hk1 := rk_found h hV h8
  have hk1' := hk1
  obtain ⟨a0, ⟨n1, n2, n3, n4, n5, n6, n7, n8, n9, n10, n11⟩, ⟨m1, m2, m3, m4, m5, m6, m7, m8, m9, m10, m11⟩, b0, _⟩ := h
  obtain ⟨_, _, _, b1, c1, c2, c3, _⟩ := hk1'
  have hR := a0.1
  have hbb := c2.1.2.2.2.2.2
  subst n2 n6 m6 m7
  have e : (nI m).toNatClampNeg = m := nI_clamp (by omega)
  have ef : (nI fo).toNatClampNeg = fo := nI_clamp (by omega)
  have hi : vp_in (nI m) 700 := vp_in_nI (by omega) (by decide)
  have hj : vp_in (nI m) 3400 := vp_in_nI (by omega) (by decide)
  have hq : vp_in (nI fo) 1700 := vp_in_nI (by omega) (by decide)
  have ew : ¬ y_whats (nI m).toNatClampNeg = 0 ∧ ¬ y_whats (nI m).toNatClampNeg = 1 ∧ ¬ y_whats (nI m).toNatClampNeg = 2 ∧ ¬ y_whats (nI m).toNatClampNeg = 3 := by
    rw [e, h1]; decide
  have eso : y_soFars (nI m).toNatClampNeg = y_soFars m := cl_R e
  have efv : x_frameValues (nI m).toNatClampNeg = x_frameValues m := cl_R e
  have eG : zv_c 2 px = zv_c 2 ((fun k => if k = fo then px else G k) fo) := by
    show zv_c 2 px = zv_c 2 (if fo = fo then px else G fo)
    rw [if_pos rfl]
  by_cases c : p < n ∧ T p ≠ 1
  · left
    obtain ⟨e1, e2, e3, e4, e5, e6⟩ := cd_cell c1 hbb c.1 c.2 h3.2.2 (pz_CL_nD0 h3.2.1)
    rw [cd_yl_p c.1 c.2] at h6
    rw [cd_xl_p c.1 c.2] at h7
    have hin : vp_in (zv_c 2 (pz_AX T n 0 p)).toInt32 1400 := zv_in (by omega) (by decide)
    have hcl : (zv_c 2 (pz_AX T n 0 p)).toInt32.toNatClampNeg = pz_AX T n 0 p := zv_cl (by omega)
    have hls := ls_nx hR h3 c.1 c.2
    have hk2 := rk_push (w := 4) (ey := y_whereins m) (ex := x_framePlaces m) (sy := nI fo) (sx := zv_c 2 px) (f := y_afters m) hk1 he (fm_mono (by omega) hf) (Or.inr (Or.inr ⟨_, rfl, hls, rfl, rfl, Or.inr ⟨fo, by omega, rfl, eG⟩⟩))
    refine ⟨(x_textLength, nI (px + 1), x_placeCount, x_procedureCount, x_continuationCount, nI (nf + 1), 0, -1, cd_xv T n p, x_framePlaces m, nI nf, x_value, x_applied, x_argumentCount, x_countedCount, x_consCount, x_entryCount, x_outputCount, x_itemCount, x_text, vp_updL x_firsts px x_value, vp_updL x_rests px (x_frameValues m), x_placeNames, x_placeValues, x_placeOuters, x_procedureParts, x_procedurePlaces, x_continuationFrames, upd x_frameTasks nf 4, vp_updL x_frameForms nf (cd_xl T n (pz_nx T n p)), vp_updL x_frameValues nf (zv_c 2 px), upd x_framePlaces nf (x_framePlaces m), upd x_frameNexts nf (y_afters m), x_arguments, x_outputs, x_itemKinds, x_itemNumbers, x_openLists),
      (y_size, y_pairs, y_open, y_formCount, y_places, y_procedures, y_continuationCount, nI (nf + 1), nI (fo + 1), y_argumentCount, y_value, cd_yv T n p, y_whereins m, nI nf, 1, -1000000003, y_counts, y_made, y_entered, y_printCount, y_itemCount, y_text, y_firsts, y_rests, y_heads, y_lasts, y_globals, y_placeNames, y_placeValues, y_placeNexts, y_procedureForms, y_procedurePlaces, y_continuations, upd y_whats nf 4, vp_updL y_withs nf (cd_yl T n (pz_nx T n p)), upd y_whereins nf (y_whereins m), upd y_soFars nf (nI fo), upd y_afters nf (y_afters m), vp_updL y_found fo y_value, upd y_foundNexts fo (y_soFars m), y_arguments, y_prints, y_itemKinds, y_itemNumbers, y_pile), fun post hp => ?_, fun post hp => ?_,
      Or.inr (Or.inl ⟨M, _, px + 1, py, pl, np, nc, nf + 1, fo + 1, cn, et, pc, p, rk_ig hk2, by omega, rfl, rfl, rfl, rfl, ⟨c.1, c.2, ls_CF h3⟩, rfl, rfl, he, rfl, Or.inr ⟨nf, by omega, rfl⟩⟩)⟩
    · refine br_f (ap_m1 (by omega)) ⟨hi, nm_r ((cl_R e).trans h7) ⟨hi, nm_r (cl_R e) ⟨hi, nm_r ((cl_R e).trans hn) ⟨hi, nm_r ((cl_R e).trans h2) (br_f (by decide) (br_t (by decide) ⟨hi, ?_⟩))⟩⟩⟩⟩
      rw [efv]
      unfold wpX_collect
      refine xs_newPair (by omega) (br_f ?_ ⟨hin, ?_⟩)
      · rw [zk_xE]
        exact ch_X0 (B := px + 1) (by omega) _ e2
      · rw [hcl, e6]
        exact xs_push (by omega) ⟨hin, nm_r e5 hp⟩
    · refine ⟨hj, nm_r ((cl_R e).trans h6) ⟨hj, nm_r (cl_R e) ⟨hj, nm_r (cl_R e) ⟨hj, br_f ew.1 ⟨hj, br_f ew.2.1 ⟨hj, br_f ew.2.2.1 ⟨hj, br_f ew.2.2.2 ⟨hq, nm_r (cl_L ef) ⟨hj, hq, ?_⟩⟩⟩⟩⟩⟩⟩⟩⟩
      rw [eso]
      refine nm_r (cl_I ef) (nm_r (nI_1 fo) (ys_isPair_t (by omega) (br_f (by decide) (ys_restOf (by omega) ?_))))
      rw [nI_pred, e4]
      refine ys_later (by omega) (ys_firstOf (by omega) ?_)
      rw [e3]
      exact hp
  · right
    rw [cd_yl_e c] at h6
    rw [cd_xl_e c] at h7
    obtain ⟨k, k1, k2⟩ := fl_ex c3 (fo + 1) (nI fo) (zv_c 2 px) (Nat.le_refl _) (Or.inr ⟨fo, by omega, rfl, eG⟩)
    obtain ⟨ac, rfl⟩ : ∃ ac, k = ac + 1 := by
      cases k with
      | zero => exact absurd k2.1 (ap_m1 (by omega))
      | succ k => exact ⟨k, rfl⟩
    obtain ⟨ay', ax', g, a, g1, g2, g3, g4⟩ := fl_args (x_textLength := x_textLength) (x_pairCount := nI (px + 1)) (x_placeCount := x_placeCount) (x_procedureCount := x_procedureCount) (x_continuationCount := x_continuationCount) (x_frameCount := nI nf) (x_state := x_state) (x_ending := -1) (x_form := x_form) (x_environment := x_framePlaces m) (x_frame := y_afters m) (x_value := x_value) (x_applied := x_applied) (x_argumentCount := nI ac) (x_countedCount := x_countedCount) (x_consCount := x_consCount) (x_entryCount := x_entryCount) (x_outputCount := x_outputCount) (x_itemCount := x_itemCount) (x_text := x_text) (x_placeNames := x_placeNames) (x_placeValues := x_placeValues) (x_placeOuters := x_placeOuters) (x_procedureParts := x_procedureParts) (x_procedurePlaces := x_procedurePlaces) (x_continuationFrames := x_continuationFrames) (x_frameTasks := x_frameTasks) (x_frameForms := x_frameForms) (x_frameValues := x_frameValues) (x_framePlaces := x_framePlaces) (x_frameNexts := x_frameNexts) (x_outputs := x_outputs) (x_itemKinds := x_itemKinds) (x_itemNumbers := x_itemNumbers) (x_openLists := x_openLists)
      (y_size := y_size) (y_pairs := y_pairs) (y_open := y_open) (y_formCount := y_formCount) (y_places := y_places) (y_procedures := y_procedures) (y_continuationCount := y_continuationCount) (y_things := nI nf) (y_foundCount := nI (fo + 1)) (y_argumentCount := nI ac) (y_value := y_value) (y_form := y_form) (y_wherein := y_wherein) (y_next := y_afters m) (y_working := 0) (y_ending := -1000000003) (y_counts := y_counts) (y_made := y_made) (y_entered := y_entered) (y_printCount := y_printCount) (y_itemCount := y_itemCount) (y_text := y_text) (y_firsts := y_firsts) (y_rests := y_rests) (y_heads := y_heads) (y_lasts := y_lasts) (y_globals := y_globals) (y_placeNames := y_placeNames) (y_placeValues := y_placeValues) (y_placeNexts := y_placeNexts) (y_procedureForms := y_procedureForms) (y_procedurePlaces := y_procedurePlaces) (y_continuations := y_continuations) (y_whats := y_whats) (y_withs := y_withs) (y_whereins := y_whereins) (y_soFars := y_soFars) (y_afters := y_afters) (y_prints := y_prints) (y_itemKinds := y_itemKinds) (y_itemNumbers := y_itemNumbers) (y_pile := y_pile)
      (ac := ac) (by omega) (by omega) (by omega) ac _ _ k2 (Nat.le_refl _) y_arguments x_arguments (fun j j1 j2 => by omega)
    refine ⟨(x_textLength, nI (px + 1), x_placeCount, x_procedureCount, x_continuationCount, nI nf, 1, -1, x_form, x_framePlaces m, y_afters m, x_value, a, nI ac, x_countedCount, x_consCount, x_entryCount, x_outputCount, x_itemCount, x_text, vp_updL x_firsts px x_value, vp_updL x_rests px (x_frameValues m), x_placeNames, x_placeValues, x_placeOuters, x_procedureParts, x_procedurePlaces, x_continuationFrames, x_frameTasks, x_frameForms, x_frameValues, x_framePlaces, x_frameNexts, ax', x_outputs, x_itemKinds, x_itemNumbers, x_openLists),
      (y_size, y_pairs, y_open, y_formCount, y_places, y_procedures, y_continuationCount, nI nf, nI (fo + 1), nI ac, y_value, y_form, y_wherein, y_afters m, 0, -1000000003, y_counts, y_made, y_entered, y_printCount, y_itemCount, y_text, y_firsts, y_rests, y_heads, y_lasts, y_globals, y_placeNames, y_placeValues, y_placeNexts, y_procedureForms, y_procedurePlaces, y_continuations, y_whats, y_withs, y_whereins, y_soFars, y_afters, vp_updL y_found fo y_value, upd y_foundNexts fo (y_soFars m), ay', y_prints, y_itemKinds, y_itemNumbers, y_pile), g, fun post hp => ?_, fun _ _ _ _ => trivial, fun post hp => ?_,
      ⟨M, _, px + 1, py, pl, np, nc, nf, fo + 1, cn, et, pc, ac, rk_ig hk1, by omega, rfl, rfl, rfl, rfl, g1, rfl, rfl, g2, rfl, fm_mono (by omega) hf⟩⟩
    · refine br_f (ap_m1 (by omega)) ⟨hi, nm_r ((cl_R e).trans h7) ⟨hi, nm_r (cl_R e) ⟨hi, nm_r ((cl_R e).trans hn) ⟨hi, nm_r ((cl_R e).trans h2) (br_f (by decide) (br_t (by decide) ⟨hi, ?_⟩))⟩⟩⟩⟩
      rw [efv]
      unfold wpX_collect
      refine xs_newPair (by omega) (br_t (by rw [zk_xE]) ?_)
      unfold wpX_startApplication
      refine xs_len_ch (by omega) (fl_ch _ _ _ k2) (nm_r (nI_pred ac) (nm_r (Int32.sub_eq_add_neg (nI ac) 1) ⟨ac + 1, g3 _ hp⟩))
    · refine ⟨hj, nm_r ((cl_R e).trans h6) ⟨hj, nm_r (cl_R e) ⟨hj, nm_r (cl_R e) ⟨hj, br_f ew.1 ⟨hj, br_f ew.2.1 ⟨hj, br_f ew.2.2.1 ⟨hj, br_f ew.2.2.2 ⟨hq, nm_r (cl_L ef) ⟨hj, hq, ?_⟩⟩⟩⟩⟩⟩⟩⟩⟩
      rw [eso]
      refine nm_r (cl_I ef) (nm_r (nI_1 fo) (ys_isPair_f (by decide) (by decide) (by decide) (br_t rfl ?_)))
      rw [nI_pred]
      have hz := hp (fun u => match u with | (y_size, y_pairs, y_open, y_formCount, y_places, y_procedures, y_continuationCount, y_things, y_foundCount, y_argumentCount, y_value, y_form, y_wherein, y_next, y_working, y_ending, y_counts, y_made, y_entered, y_printCount, y_itemCount, y_text, y_firsts, y_rests, y_heads, y_lasts, y_globals, y_placeNames, y_placeValues, y_placeNexts, y_procedureForms, y_procedurePlaces, y_continuations, y_whats, y_withs, y_whereins, y_soFars, y_afters, y_found, y_foundNexts, y_arguments, y_prints, y_itemKinds, y_itemNumbers, y_pile) => post (y_size, y_pairs, y_open, y_formCount, y_places, y_procedures, y_continuationCount, y_things, y_foundCount, y_argumentCount, y_value, y_form, y_wherein, y_next, y_working, y_ending, y_counts, y_made, y_entered, y_printCount, y_itemCount, y_text, y_firsts, y_rests, y_heads, y_lasts, y_globals, y_placeNames, y_placeValues, y_placeNexts, y_procedureForms, y_procedurePlaces, y_continuations, y_whats, y_withs, y_whereins, y_soFars, y_afters, y_found, y_foundNexts, y_arguments, y_prints, y_itemKinds, y_itemNumbers, y_pile)) (fun v hv => by
        obtain ⟨y_size, y_pairs, y_open, y_formCount, y_places, y_procedures, y_continuationCount, y_things, y_foundCount, y_argumentCount, y_value, y_form, y_wherein, y_next, y_working, y_ending, y_counts, y_made, y_entered, y_printCount, y_itemCount, y_text, y_firsts, y_rests, y_heads, y_lasts, y_globals, y_placeNames, y_placeValues, y_placeNexts, y_procedureForms, y_procedurePlaces, y_continuations, y_whats, y_withs, y_whereins, y_soFars, y_afters, y_found, y_foundNexts, y_arguments, y_prints, y_itemKinds, y_itemNumbers, y_pile⟩ := v
        exact hv)
      have hcnt := fl_cnt (post := fun u => match u with | (y_size, y_pairs, y_open, y_formCount, y_places, y_procedures, y_continuationCount, y_things, y_foundCount, y_argumentCount, y_value, y_form, y_wherein, y_next, y_working, y_ending, y_counts, y_made, y_entered, y_printCount, y_itemCount, y_text, y_firsts, y_rests, y_heads, y_lasts, y_globals, y_placeNames, y_placeValues, y_placeNexts, y_procedureForms, y_procedurePlaces, y_continuations, y_whats, y_withs, y_whereins, y_soFars, y_afters, y_found, y_foundNexts, y_arguments, y_prints, y_itemKinds, y_itemNumbers, y_pile) => post (y_size, y_pairs, y_open, y_formCount, y_places, y_procedures, y_continuationCount, y_things, y_foundCount, y_argumentCount, y_value, y_form, y_wherein, y_next, y_working, y_ending, y_counts, y_made, y_entered, y_printCount, y_itemCount, y_text, y_firsts, y_rests, y_heads, y_lasts, y_globals, y_placeNames, y_placeValues, y_placeNexts, y_procedureForms, y_procedurePlaces, y_continuations, y_whats, y_withs, y_whereins, y_soFars, y_afters, y_found, y_foundNexts, y_arguments, y_prints, y_itemKinds, y_itemNumbers, y_pile)) (y_argumentCount := y_argumentCount) (x1 := nI fo) (ac := ac) (by omega) ⟨ac + 2, g4 _ 0 hz⟩ (ac + 1) 0 _ _ k2 (by omega)
      exact ⟨ac + 1 + 1, hcnt⟩
end
end
section
/-! a value is given: all cases -/
section
variable {x_textLength : Int32} {x_pairCount : Int32} {x_placeCount : Int32} {x_procedureCount : Int32} {x_continuationCount : Int32} {x_frameCount : Int32} {x_state : Int32} {x_ending : Int32} {x_form : Int64} {x_environment : Int32} {x_frame : Int32} {x_value : Int64} {x_applied : Int64} {x_argumentCount : Int32} {x_countedCount : Int32} {x_consCount : Int32} {x_entryCount : Int32} {x_outputCount : Int32} {x_itemCount : Int32} {x_text : Nat → Int32} {x_firsts : Nat → Int64} {x_rests : Nat → Int64} {x_placeNames : Nat → Int32} {x_placeValues : Nat → Int64} {x_placeOuters : Nat → Int32} {x_procedureParts : Nat → Int64} {x_procedurePlaces : Nat → Int32} {x_continuationFrames : Nat → Int32} {x_frameTasks : Nat → Int32} {x_frameForms : Nat → Int64} {x_frameValues : Nat → Int64} {x_framePlaces : Nat → Int32} {x_frameNexts : Nat → Int32} {x_arguments : Nat → Int64} {x_outputs : Nat → Int32} {x_itemKinds : Nat → Int32} {x_itemNumbers : Nat → Int32} {x_openLists : Nat → Int64}
variable {y_size : Int32} {y_pairs : Int32} {y_open : Int32} {y_formCount : Int32} {y_places : Int32} {y_procedures : Int32} {y_continuationCount : Int32} {y_things : Int32} {y_foundCount : Int32} {y_argumentCount : Int32} {y_value : Int64} {y_form : Int64} {y_wherein : Int32} {y_next : Int32} {y_working : Int32} {y_ending : Int32} {y_counts : Int32} {y_made : Int32} {y_entered : Int32} {y_printCount : Int32} {y_itemCount : Int32} {y_text : Nat → Int32} {y_firsts : Nat → Int64} {y_rests : Nat → Int64} {y_heads : Nat → Int32} {y_lasts : Nat → Int32} {y_globals : Nat → Int64} {y_placeNames : Nat → Int32} {y_placeValues : Nat → Int64} {y_placeNexts : Nat → Int32} {y_procedureForms : Nat → Int64} {y_procedurePlaces : Nat → Int32} {y_continuations : Nat → Int32} {y_whats : Nat → Int32} {y_withs : Nat → Int64} {y_whereins : Nat → Int32} {y_soFars : Nat → Int32} {y_afters : Nat → Int32} {y_found : Nat → Int64} {y_foundNexts : Nat → Int32} {y_arguments : Nat → Int64} {y_prints : Nat → Int32} {y_itemKinds : Nat → Int32} {y_itemNumbers : Nat → Int32} {y_pile : Nat → Int64}
variable {T : Nat → Nat} {n co f : Nat}
theorem st_V (h : sm_V T n co f (x_textLength, x_pairCount, x_placeCount, x_procedureCount, x_continuationCount, x_frameCount, x_state, x_ending, x_form, x_environment, x_frame, x_value, x_applied, x_argumentCount, x_countedCount, x_consCount, x_entryCount, x_outputCount, x_itemCount, x_text, x_firsts, x_rests, x_placeNames, x_placeValues, x_placeOuters, x_procedureParts, x_procedurePlaces, x_continuationFrames, x_frameTasks, x_frameForms, x_frameValues, x_framePlaces, x_frameNexts, x_arguments, x_outputs, x_itemKinds, x_itemNumbers, x_openLists) (y_size, y_pairs, y_open, y_formCount, y_places, y_procedures, y_continuationCount, y_things, y_foundCount, y_argumentCount, y_value, y_form, y_wherein, y_next, y_working, y_ending, y_counts, y_made, y_entered, y_printCount, y_itemCount, y_text, y_firsts, y_rests, y_heads, y_lasts, y_globals, y_placeNames, y_placeValues, y_placeNexts, y_procedureForms, y_procedurePlaces, y_continuations, y_whats, y_withs, y_whereins, y_soFars, y_afters, y_found, y_foundNexts, y_arguments, y_prints, y_itemKinds, y_itemNumbers, y_pile)) (hf0 : f ≠ 0) :
    (∃ u' v', (∀ post : SX → Prop, post u' → wpX_goOn post (x_textLength, x_pairCount, x_placeCount, x_procedureCount, x_continuationCount, x_frameCount, x_state, x_ending, x_form, x_environment, x_frame, x_value, x_applied, x_argumentCount, x_countedCount, x_consCount, x_entryCount, x_outputCount, x_itemCount, x_text, x_firsts, x_rests, x_placeNames, x_placeValues, x_placeOuters, x_procedureParts, x_procedurePlaces, x_continuationFrames, x_frameTasks, x_frameForms, x_frameValues, x_framePlaces, x_frameNexts, x_arguments, x_outputs, x_itemKinds, x_itemNumbers, x_openLists)) ∧ (∀ post : SY → Prop, post v' → wpY_goOn post (y_size, y_pairs, y_open, y_formCount, y_places, y_procedures, y_continuationCount, y_things, y_foundCount, y_argumentCount, y_value, y_form, y_wherein, y_next, y_working, y_ending, y_counts, y_made, y_entered, y_printCount, y_itemCount, y_text, y_firsts, y_rests, y_heads, y_lasts, y_globals, y_placeNames, y_placeValues, y_placeNexts, y_procedureForms, y_procedurePlaces, y_continuations, y_whats, y_withs, y_whereins, y_soFars, y_afters, y_found, y_foundNexts, y_arguments, y_prints, y_itemKinds, y_itemNumbers, y_pile)) ∧ sm_go T n co (f - 1) u' v') ∨
    (∃ u' v' g, (∀ post : SX → Prop, post u' → wpX_goOn post (x_textLength, x_pairCount, x_placeCount, x_procedureCount, x_continuationCount, x_frameCount, x_state, x_ending, x_form, x_environment, x_frame, x_value, x_applied, x_argumentCount, x_countedCount, x_consCount, x_entryCount, x_outputCount, x_itemCount, x_text, x_firsts, x_rests, x_placeNames, x_placeValues, x_placeOuters, x_procedureParts, x_procedurePlaces, x_continuationFrames, x_frameTasks, x_frameForms, x_frameValues, x_framePlaces, x_frameNexts, x_arguments, x_outputs, x_itemKinds, x_itemNumbers, x_openLists)) ∧ (∀ post : SY → Prop, (∀ q : SY → Prop, (∀ v, post v → q v) → ∃ f, yA_loop q f g v') → wpY_goOn post (y_size, y_pairs, y_open, y_formCount, y_places, y_procedures, y_continuationCount, y_things, y_foundCount, y_argumentCount, y_value, y_form, y_wherein, y_next, y_working, y_ending, y_counts, y_made, y_entered, y_printCount, y_itemCount, y_text, y_firsts, y_rests, y_heads, y_lasts, y_globals, y_placeNames, y_placeValues, y_placeNexts, y_procedureForms, y_procedurePlaces, y_continuations, y_whats, y_withs, y_whereins, y_soFars, y_afters, y_found, y_foundNexts, y_arguments, y_prints, y_itemKinds, y_itemNumbers, y_pile)) ∧ sm_A T n co g u' v') := by
  obtain ⟨M, G, px, py, pl, np, nc, nf, fo, cn, et, pc, h, hb, s1, s2, s3, s4, hV, hf, hf2⟩ := h
  rcases hf2 with ⟨z, _⟩ | ⟨m, m1, rfl, s5⟩
  · exact absurd z hf0
  · rw [Nat.add_sub_cancel]
    subst s2 s3 s4 s5 hf
    obtain ⟨g1, g2, g3, g4⟩ := h.2.2.2.2.2.2.2.1 m m1
    rcases g4 with ⟨w, p, w1, w2, w3, w4, w5, w6, w7, w8⟩ | ⟨w, k, w1, w1', w2, w3, w4, w5, w6, w7⟩ | ⟨p, w2, w3, w4, w5, w6, w7⟩
    · have hw : w = 0 ∨ w = 1 := by omega
      rcases hw with rfl | rfl
      · exact Or.inl (st_V0 h hb m1 g1 g2 g3 w2 w3 w4 w5 w6 w7 w8)
      · exact Or.inl (st_V1 h hb hV m1 g1 g2 g3 w2 w3 w4 w5 w6 w7 w8)
    · have hw : w = 2 ∨ w = 3 := by omega
      rcases hw with rfl | rfl
      · exact Or.inl (st_V2 h hb hV m1 g2 g3 w2 w3 w4 w5 w6 w7)
      · exact Or.inl (st_V3 h hb hV m1 g1 g2 g3 w2 w3 w4 w5 w6 w7)
    · rcases st_V4 h hb hV m1 g1 g2 g3 w2 w3 w4 w5 w6 w7 with a | ⟨u', v', g, a, _, b, c⟩
      · exact Or.inl a
      · exact Or.inr ⟨u', v', g, a, b, c⟩
end
end
section
/-! built-in procedures -/
section
variable {x_textLength : Int32} {x_pairCount : Int32} {x_placeCount : Int32} {x_procedureCount : Int32} {x_continuationCount : Int32} {x_frameCount : Int32} {x_state : Int32} {x_ending : Int32} {x_form : Int64} {x_environment : Int32} {x_frame : Int32} {x_value : Int64} {x_applied : Int64} {x_argumentCount : Int32} {x_countedCount : Int32} {x_consCount : Int32} {x_entryCount : Int32} {x_outputCount : Int32} {x_itemCount : Int32} {x_text : Nat → Int32} {x_firsts : Nat → Int64} {x_rests : Nat → Int64} {x_placeNames : Nat → Int32} {x_placeValues : Nat → Int64} {x_placeOuters : Nat → Int32} {x_procedureParts : Nat → Int64} {x_procedurePlaces : Nat → Int32} {x_continuationFrames : Nat → Int32} {x_frameTasks : Nat → Int32} {x_frameForms : Nat → Int64} {x_frameValues : Nat → Int64} {x_framePlaces : Nat → Int32} {x_frameNexts : Nat → Int32} {x_arguments : Nat → Int64} {x_outputs : Nat → Int32} {x_itemKinds : Nat → Int32} {x_itemNumbers : Nat → Int32} {x_openLists : Nat → Int64}
variable {y_size : Int32} {y_pairs : Int32} {y_open : Int32} {y_formCount : Int32} {y_places : Int32} {y_procedures : Int32} {y_continuationCount : Int32} {y_things : Int32} {y_foundCount : Int32} {y_argumentCount : Int32} {y_value : Int64} {y_form : Int64} {y_wherein : Int32} {y_next : Int32} {y_working : Int32} {y_ending : Int32} {y_counts : Int32} {y_made : Int32} {y_entered : Int32} {y_printCount : Int32} {y_itemCount : Int32} {y_text : Nat → Int32} {y_firsts : Nat → Int64} {y_rests : Nat → Int64} {y_heads : Nat → Int32} {y_lasts : Nat → Int32} {y_globals : Nat → Int64} {y_placeNames : Nat → Int32} {y_placeValues : Nat → Int64} {y_placeNexts : Nat → Int32} {y_procedureForms : Nat → Int64} {y_procedurePlaces : Nat → Int32} {y_continuations : Nat → Int32} {y_whats : Nat → Int32} {y_withs : Nat → Int64} {y_whereins : Nat → Int32} {y_soFars : Nat → Int32} {y_afters : Nat → Int32} {y_found : Nat → Int64} {y_foundNexts : Nat → Int32} {y_arguments : Nat → Int64} {y_prints : Nat → Int32} {y_itemKinds : Nat → Int32} {y_itemNumbers : Nat → Int32} {y_pile : Nat → Int64}
variable {T : Nat → Nat} {n px py pl np nc nf fo co cn et pc : Nat} {M : Nat → Nat → Prop} {G : Nat → Nat}
theorem up_self (F : Nat → Int64) (k : Nat) : vp_updL F k (F k) = F := by
  funext j
  by_cases z : j = k
  · rw [z, pk_uLs]
  · rw [pk_uLn z]
theorem zv_Vtruth {b : Nat} (h : b < 2) : zv_V M np nc (zv_c 1 b) (zv_c 4 b) := ⟨1, b, 4, b, by omega, by omega, rfl, rfl, Or.inr (Or.inl ⟨rfl, rfl, rfl, h⟩)⟩
theorem zv_Vnum {k : Nat} (h : k < 4294967296) : zv_V M np nc (zv_c 0 k) (zv_c 0 k) := ⟨0, k, 0, k, h, h, rfl, rfl, Or.inl ⟨rfl, rfl, rfl⟩⟩
/-- the relation with a value in hand -/
theorem sm_toV {y x : Int64} (h : sm_R T n M G px py pl np nc nf fo co cn et pc (x_textLength, x_pairCount, x_placeCount, x_procedureCount, x_continuationCount, x_frameCount, x_state, x_ending, x_form, x_environment, x_frame, x_value, x_applied, x_argumentCount, x_countedCount, x_consCount, x_entryCount, x_outputCount, x_itemCount, x_text, x_firsts, x_rests, x_placeNames, x_placeValues, x_placeOuters, x_procedureParts, x_procedurePlaces, x_continuationFrames, x_frameTasks, x_frameForms, x_frameValues, x_framePlaces, x_frameNexts, x_arguments, x_outputs, x_itemKinds, x_itemNumbers, x_openLists) (y_size, y_pairs, y_open, y_formCount, y_places, y_procedures, y_continuationCount, y_things, y_foundCount, y_argumentCount, y_value, y_form, y_wherein, y_next, y_working, y_ending, y_counts, y_made, y_entered, y_printCount, y_itemCount, y_text, y_firsts, y_rests, y_heads, y_lasts, y_globals, y_placeNames, y_placeValues, y_placeNexts, y_procedureForms, y_procedurePlaces, y_continuations, y_whats, y_withs, y_whereins, y_soFars, y_afters, y_found, y_foundNexts, y_arguments, y_prints, y_itemKinds, y_itemNumbers, y_pile)) (hb : fo ≤ co ∧ nf ≤ co) (hx : x_ending = -1) (hy : y_ending = -1000000003) (hV : zv_V M np nc y x) (hf : x_frame = y_next) (hf2 : fm_N nf y_next) : sm_to T n co (x_textLength, x_pairCount, x_placeCount, x_procedureCount, x_continuationCount, x_frameCount, 2, x_ending, x_form, x_environment, x_frame, x, x_applied, x_argumentCount, x_countedCount, x_consCount, x_entryCount, x_outputCount, x_itemCount, x_text, x_firsts, x_rests, x_placeNames, x_placeValues, x_placeOuters, x_procedureParts, x_procedurePlaces, x_continuationFrames, x_frameTasks, x_frameForms, x_frameValues, x_framePlaces, x_frameNexts, x_arguments, x_outputs, x_itemKinds, x_itemNumbers, x_openLists) (y_size, y_pairs, y_open, y_formCount, y_places, y_procedures, y_continuationCount, y_things, y_foundCount, y_argumentCount, y, y_form, y_wherein, y_next, 0, y_ending, y_counts, y_made, y_entered, y_printCount, y_itemCount, y_text, y_firsts, y_rests, y_heads, y_lasts, y_globals, y_placeNames, y_placeValues, y_placeNexts, y_procedureForms, y_procedurePlaces, y_continuations, y_whats, y_withs, y_whereins, y_soFars, y_afters, y_found, y_foundNexts, y_arguments, y_prints, y_itemKinds, y_itemNumbers, y_pile) := by
  obtain ⟨f, a, b⟩ := sm_mkV h hb hx hy hV hf hf2
  exact Or.inr (Or.inr ⟨f, a, b⟩)
theorem xs_truth {post : SX → Prop} {b : Nat} (hb : b < 2) (hp : post (x_textLength, x_pairCount, x_placeCount, x_procedureCount, x_continuationCount, x_frameCount, 2, x_ending, x_form, x_environment, x_frame, zv_c 4 b, x_applied, x_argumentCount, x_countedCount, x_consCount, x_entryCount, x_outputCount, x_itemCount, x_text, x_firsts, x_rests, x_placeNames, x_placeValues, x_placeOuters, x_procedureParts, x_procedurePlaces, x_continuationFrames, x_frameTasks, x_frameForms, x_frameValues, x_framePlaces, x_frameNexts, x_arguments, x_outputs, x_itemKinds, x_itemNumbers, x_openLists)) : wpX_giveTruth post (x_textLength, x_pairCount, x_placeCount, x_procedureCount, x_continuationCount, x_frameCount, x_state, x_ending, x_form, x_environment, x_frame, x_value, x_applied, x_argumentCount, x_countedCount, x_consCount, x_entryCount, x_outputCount, x_itemCount, x_text, x_firsts, x_rests, x_placeNames, x_placeValues, x_placeOuters, x_procedureParts, x_procedurePlaces, x_continuationFrames, x_frameTasks, x_frameForms, x_frameValues, x_framePlaces, x_frameNexts, x_arguments, x_outputs, x_itemKinds, x_itemNumbers, x_openLists) (nI b) := by
  have : b = 0 ∨ b = 1 := by omega
  rcases this with rfl | rfl
  · exact br_t rfl (by rw [zk_xF]; exact hp)
  · exact br_f (by decide) (by rw [zk_xT]; exact hp)
theorem ys_truth {post : Int64 → Prop} {b : Nat} (hb : b < 2) (hp : post (zv_c 1 b)) : wpY_truth post (y_size, y_pairs, y_open, y_formCount, y_places, y_procedures, y_continuationCount, y_things, y_foundCount, y_argumentCount, y_value, y_form, y_wherein, y_next, y_working, y_ending, y_counts, y_made, y_entered, y_printCount, y_itemCount, y_text, y_firsts, y_rests, y_heads, y_lasts, y_globals, y_placeNames, y_placeValues, y_placeNexts, y_procedureForms, y_procedurePlaces, y_continuations, y_whats, y_withs, y_whereins, y_soFars, y_afters, y_found, y_foundNexts, y_arguments, y_prints, y_itemKinds, y_itemNumbers, y_pile) (nI b) := by
  have : b = 0 ∨ b = 1 := by omega
  rcases this with rfl | rfl
  · exact br_t rfl (ys_thing (t := 1) (k := 0) rfl rfl (by decide) (by decide) hp)
  · exact br_f (by decide) (ys_thing (t := 1) (k := 1) rfl rfl (by decide) (by decide) hp)
theorem bi_cons (h : sm_R T n M G px py pl np nc nf fo co cn et pc (x_textLength, x_pairCount, x_placeCount, x_procedureCount, x_continuationCount, x_frameCount, x_state, -1, x_form, x_environment, x_frame, x_value, x_applied, x_argumentCount, x_countedCount, x_consCount, x_entryCount, x_outputCount, x_itemCount, x_text, x_firsts, x_rests, x_placeNames, x_placeValues, x_placeOuters, x_procedureParts, x_procedurePlaces, x_continuationFrames, x_frameTasks, x_frameForms, x_frameValues, x_framePlaces, x_frameNexts, x_arguments, x_outputs, x_itemKinds, x_itemNumbers, x_openLists) (y_size, y_pairs, y_open, y_formCount, y_places, y_procedures, y_continuationCount, y_things, y_foundCount, y_argumentCount, y_value, y_form, y_wherein, y_next, y_working, -1000000003, y_counts, y_made, y_entered, y_printCount, y_itemCount, y_text, y_firsts, y_rests, y_heads, y_lasts, y_globals, y_placeNames, y_placeValues, y_placeNexts, y_procedureForms, y_procedurePlaces, y_continuations, y_whats, y_withs, y_whereins, y_soFars, y_afters, y_found, y_foundNexts, y_arguments, y_prints, y_itemKinds, y_itemNumbers, y_pile)) (hb : fo ≤ co ∧ nf ≤ co) (hc : cn + 1 ≤ co) (hf : x_frame = y_next) (hf2 : fm_N nf y_next) (h0 : zv_V M np nc (y_arguments 0) (x_arguments 0)) (h1 : zv_V M np nc (y_arguments 1) (x_arguments 1)) :
    ∃ u' v', (∀ post : SX → Prop, post u' → wX_applyBuiltIn_43 post (nI 50) 2 2 x_textLength x_pairCount x_placeCount x_procedureCount x_continuationCount x_frameCount x_state (-1) x_form x_environment x_frame x_value x_applied x_argumentCount x_countedCount x_consCount x_entryCount x_outputCount x_itemCount x_text x_firsts x_rests x_placeNames x_placeValues x_placeOuters x_procedureParts x_procedurePlaces x_continuationFrames x_frameTasks x_frameForms x_frameValues x_framePlaces x_frameNexts x_arguments x_outputs x_itemKinds x_itemNumbers x_openLists) ∧ (∀ post : SY → Prop, post v' → wpY_applyBuiltIn post (y_size, y_pairs, y_open, y_formCount, y_places, y_procedures, y_continuationCount, y_things, y_foundCount, y_argumentCount, y_value, y_form, y_wherein, y_next, y_working, -1000000003, y_counts, y_made, y_entered, y_printCount, y_itemCount, y_text, y_firsts, y_rests, y_heads, y_lasts, y_globals, y_placeNames, y_placeValues, y_placeNexts, y_procedureForms, y_procedurePlaces, y_continuations, y_whats, y_withs, y_whereins, y_soFars, y_afters, y_found, y_foundNexts, y_arguments, y_prints, y_itemKinds, y_itemNumbers, y_pile) (nI 50) (y_arguments 0) (y_arguments 1)) ∧ sm_to T n co u' v' := by
  have hk := rk_cons h hc h0 h1
  obtain ⟨a, ⟨n1, n2, n3, n4, n5, n6, n7, n8, n9, n10, n11⟩, ⟨m1, m2, m3, m4, m5, m6, m7, m8, m9, m10, m11⟩, b, c1, c2, _⟩ := h
  have hV : zv_V (hp_M M py px) np nc (zv_c 3 py) (zv_c 2 px) := ⟨3, py, 2, px, by omega, by omega, rfl, rfl, Or.inr (Or.inr (Or.inr (Or.inl ⟨rfl, rfl, Or.inr ⟨rfl, rfl⟩⟩)))⟩
  subst n2 m2 n8 m9
  have ht := sm_toV hk hb rfl rfl hV hf hf2
  refine ⟨_, _, fun post hp => ?_, fun post hp => ?_, ht⟩
  · exact br_t rfl (br_f (by decide) (br_f (by decide) (br_t rfl (nm_r (nI_1 cn) (xs_newPair (by omega) hp)))))
  · exact br_t rfl (nm_r (nI_1 cn) (ys_pair (by omega) (ys_thing (t := 3) (k := py) rfl rfl (by decide) (by omega) hp)))
theorem bi_pred {k : Nat} (h : sm_R T n M G px py pl np nc nf fo co cn et pc (x_textLength, x_pairCount, x_placeCount, x_procedureCount, x_continuationCount, x_frameCount, x_state, -1, x_form, x_environment, x_frame, x_value, x_applied, x_argumentCount, x_countedCount, x_consCount, x_entryCount, x_outputCount, x_itemCount, x_text, x_firsts, x_rests, x_placeNames, x_placeValues, x_placeOuters, x_procedureParts, x_procedurePlaces, x_continuationFrames, x_frameTasks, x_frameForms, x_frameValues, x_framePlaces, x_frameNexts, x_arguments, x_outputs, x_itemKinds, x_itemNumbers, x_openLists) (y_size, y_pairs, y_open, y_formCount, y_places, y_procedures, y_continuationCount, y_things, y_foundCount, y_argumentCount, y_value, y_form, y_wherein, y_next, y_working, -1000000003, y_counts, y_made, y_entered, y_printCount, y_itemCount, y_text, y_firsts, y_rests, y_heads, y_lasts, y_globals, y_placeNames, y_placeValues, y_placeNexts, y_procedureForms, y_procedurePlaces, y_continuations, y_whats, y_withs, y_whereins, y_soFars, y_afters, y_found, y_foundNexts, y_arguments, y_prints, y_itemKinds, y_itemNumbers, y_pile)) (hb : fo ≤ co ∧ nf ≤ co) (hf : x_frame = y_next) (hf2 : fm_N nf y_next) (hk : k = 53 ∨ k = 54) (h0 : zv_V M np nc (y_arguments 0) (x_arguments 0)) :
    ∃ u' v', (∀ post : SX → Prop, post u' → wX_applyBuiltIn_43 post (nI k) 1 1 x_textLength x_pairCount x_placeCount x_procedureCount x_continuationCount x_frameCount x_state (-1) x_form x_environment x_frame x_value x_applied x_argumentCount x_countedCount x_consCount x_entryCount x_outputCount x_itemCount x_text x_firsts x_rests x_placeNames x_placeValues x_placeOuters x_procedureParts x_procedurePlaces x_continuationFrames x_frameTasks x_frameForms x_frameValues x_framePlaces x_frameNexts x_arguments x_outputs x_itemKinds x_itemNumbers x_openLists) ∧ (∀ post : SY → Prop, post v' → wpY_applyBuiltIn post (y_size, y_pairs, y_open, y_formCount, y_places, y_procedures, y_continuationCount, y_things, y_foundCount, y_argumentCount, y_value, y_form, y_wherein, y_next, y_working, -1000000003, y_counts, y_made, y_entered, y_printCount, y_itemCount, y_text, y_firsts, y_rests, y_heads, y_lasts, y_globals, y_placeNames, y_placeValues, y_placeNexts, y_procedureForms, y_procedurePlaces, y_continuations, y_whats, y_withs, y_whereins, y_soFars, y_afters, y_found, y_foundNexts, y_arguments, y_prints, y_itemKinds, y_itemNumbers, y_pile) (nI k) (y_arguments 0) (y_arguments 1)) ∧ sm_to T n co u' v' := by
  obtain ⟨t, a, s, l, v1, v2, v3, v4, vK⟩ := h0
  have vb := zv_K_b vK
  have vp := zv_K_p vK
  rcases hk with rfl | rfl
  · have hx : x_arguments 0 = 12884901888 ↔ t = 2 := by
      rw [v4, zk_xE, zv_eq (by omega) v2 (by decide) (by decide)]; omega
    by_cases z : t = 2
    · have ht := sm_toV h hb rfl rfl (zv_Vtruth (b := 1) (by decide)) hf hf2
      refine ⟨_, _, fun post hp => ?_, fun post hp => ?_, ht⟩
      · exact br_t rfl (br_f (by decide) (br_f (by decide) (br_f (by decide) (br_f (by decide) (br_f (by decide) (br_t rfl (br_t (hx.mpr z) (xs_truth (b := 1) (by decide) hp))))))))
      · rw [v3]
        refine br_f (by decide) (br_t rfl ?_)
        unfold wY_applyBuiltIn_47
        exact ys_tag (by omega) v1 (br_t rfl (br_t (by rw [z]; rfl) (ys_truth (b := 1) (by decide) hp)))
    · have ht := sm_toV h hb rfl rfl (zv_Vtruth (b := 0) (by decide)) hf hf2
      refine ⟨_, _, fun post hp => ?_, fun post hp => ?_, ht⟩
      · exact br_t rfl (br_f (by decide) (br_f (by decide) (br_f (by decide) (br_f (by decide) (br_f (by decide) (br_t rfl (br_f (fun y => z (hx.mp y)) (xs_truth (b := 0) (by decide) hp))))))))
      · rw [v3]
        refine br_f (by decide) (br_t rfl ?_)
        unfold wY_applyBuiltIn_47
        exact ys_tag (by omega) v1 (br_t rfl (br_f (ne_I (b := 2) z (by omega) (by decide)) (ys_truth (b := 0) (by decide) hp)))
  · have hx : x_arguments 0 >>> ((32 : Int32).toInt64 &&& 63) = 2 ↔ t = 3 := by
      rw [v4, zv_sh (by omega) v2]
      have : lN s = 2 ↔ s = 2 := pk_lEQ (a := s) (b := 2) (by omega) (by omega)
      rw [this]; omega
    by_cases z : t = 3
    · have ht := sm_toV h hb rfl rfl (zv_Vtruth (b := 1) (by decide)) hf hf2
      refine ⟨_, _, fun post hp => ?_, fun post hp => ?_, ht⟩
      · exact br_t rfl (br_f (by decide) (br_f (by decide) (br_f (by decide) (br_f (by decide) (br_f (by decide) (br_f (by decide) (br_t rfl (br_t (hx.mpr z) (xs_truth (b := 1) (by decide) hp)))))))))
      · rw [v3]
        refine br_f (by decide) (br_f (by decide) (br_t rfl ?_))
        unfold wY_applyBuiltIn_47
        exact ys_tag (by omega) v1 (br_f (by decide) (br_t (by rw [z]; rfl) (ys_truth (b := 1) (by decide) hp)))
    · have ht := sm_toV h hb rfl rfl (zv_Vtruth (b := 0) (by decide)) hf hf2
      refine ⟨_, _, fun post hp => ?_, fun post hp => ?_, ht⟩
      · exact br_t rfl (br_f (by decide) (br_f (by decide) (br_f (by decide) (br_f (by decide) (br_f (by decide) (br_f (by decide) (br_t rfl (br_f (fun y => z (hx.mp y)) (xs_truth (b := 0) (by decide) hp)))))))))
      · rw [v3]
        refine br_f (by decide) (br_f (by decide) (br_t rfl ?_))
        unfold wY_applyBuiltIn_47
        exact ys_tag (by omega) v1 (br_f (by decide) (br_f (ne_I (b := 3) z (by omega) (by decide)) (ys_truth (b := 0) (by decide) hp)))
theorem bi_same (h : sm_R T n M G px py pl np nc nf fo co cn et pc (x_textLength, x_pairCount, x_placeCount, x_procedureCount, x_continuationCount, x_frameCount, x_state, -1, x_form, x_environment, x_frame, x_value, x_applied, x_argumentCount, x_countedCount, x_consCount, x_entryCount, x_outputCount, x_itemCount, x_text, x_firsts, x_rests, x_placeNames, x_placeValues, x_placeOuters, x_procedureParts, x_procedurePlaces, x_continuationFrames, x_frameTasks, x_frameForms, x_frameValues, x_framePlaces, x_frameNexts, x_arguments, x_outputs, x_itemKinds, x_itemNumbers, x_openLists) (y_size, y_pairs, y_open, y_formCount, y_places, y_procedures, y_continuationCount, y_things, y_foundCount, y_argumentCount, y_value, y_form, y_wherein, y_next, y_working, -1000000003, y_counts, y_made, y_entered, y_printCount, y_itemCount, y_text, y_firsts, y_rests, y_heads, y_lasts, y_globals, y_placeNames, y_placeValues, y_placeNexts, y_procedureForms, y_procedurePlaces, y_continuations, y_whats, y_withs, y_whereins, y_soFars, y_afters, y_found, y_foundNexts, y_arguments, y_prints, y_itemKinds, y_itemNumbers, y_pile)) (hb : fo ≤ co ∧ nf ≤ co) (hf : x_frame = y_next) (hf2 : fm_N nf y_next) (h0 : zv_V M np nc (y_arguments 0) (x_arguments 0)) (h1 : zv_V M np nc (y_arguments 1) (x_arguments 1)) :
    ∃ u' v', (∀ post : SX → Prop, post u' → wX_applyBuiltIn_43 post (nI 55) 2 2 x_textLength x_pairCount x_placeCount x_procedureCount x_continuationCount x_frameCount x_state (-1) x_form x_environment x_frame x_value x_applied x_argumentCount x_countedCount x_consCount x_entryCount x_outputCount x_itemCount x_text x_firsts x_rests x_placeNames x_placeValues x_placeOuters x_procedureParts x_procedurePlaces x_continuationFrames x_frameTasks x_frameForms x_frameValues x_framePlaces x_frameNexts x_arguments x_outputs x_itemKinds x_itemNumbers x_openLists) ∧ (∀ post : SY → Prop, post v' → wpY_applyBuiltIn post (y_size, y_pairs, y_open, y_formCount, y_places, y_procedures, y_continuationCount, y_things, y_foundCount, y_argumentCount, y_value, y_form, y_wherein, y_next, y_working, -1000000003, y_counts, y_made, y_entered, y_printCount, y_itemCount, y_text, y_firsts, y_rests, y_heads, y_lasts, y_globals, y_placeNames, y_placeValues, y_placeNexts, y_procedureForms, y_procedurePlaces, y_continuations, y_whats, y_withs, y_whereins, y_soFars, y_afters, y_found, y_foundNexts, y_arguments, y_prints, y_itemKinds, y_itemNumbers, y_pile) (nI 55) (y_arguments 0) (y_arguments 1)) ∧ sm_to T n co u' v' := by
  have c2 := h.2.2.2.2.2.1.1
  have hx := zv_V_eq c2.2.1 c2.2.2.1 h0 h1
  by_cases z : y_arguments 0 = y_arguments 1
  · have ht := sm_toV h hb rfl rfl (zv_Vtruth (b := 1) (by decide)) hf hf2
    refine ⟨_, _, fun post hp => ?_, fun post hp => ?_, ht⟩
    · exact br_t rfl (br_f (by decide) (br_f (by decide) (br_f (by decide) (br_f (by decide) (br_f (by decide) (br_f (by decide) (br_f (by decide) (br_t rfl (br_t (hx.mp z) (xs_truth (b := 1) (by decide) hp))))))))))
    · exact br_f (by decide) (br_f (by decide) (br_f (by decide) (br_t rfl (br_t z (ys_truth (b := 1) (by decide) hp)))))
  · have ht := sm_toV h hb rfl rfl (zv_Vtruth (b := 0) (by decide)) hf hf2
    refine ⟨_, _, fun post hp => ?_, fun post hp => ?_, ht⟩
    · exact br_t rfl (br_f (by decide) (br_f (by decide) (br_f (by decide) (br_f (by decide) (br_f (by decide) (br_f (by decide) (br_f (by decide) (br_t rfl (br_f (fun y => z (hx.mpr y)) (xs_truth (b := 0) (by decide) hp))))))))))
    · exact br_f (by decide) (br_f (by decide) (br_f (by decide) (br_t rfl (br_f z (ys_truth (b := 0) (by decide) hp)))))
end
end
section
/-! built-in procedures: pairs, numbers, print -/
section
variable {x_textLength : Int32} {x_pairCount : Int32} {x_placeCount : Int32} {x_procedureCount : Int32} {x_continuationCount : Int32} {x_frameCount : Int32} {x_state : Int32} {x_ending : Int32} {x_form : Int64} {x_environment : Int32} {x_frame : Int32} {x_value : Int64} {x_applied : Int64} {x_argumentCount : Int32} {x_countedCount : Int32} {x_consCount : Int32} {x_entryCount : Int32} {x_outputCount : Int32} {x_itemCount : Int32} {x_text : Nat → Int32} {x_firsts : Nat → Int64} {x_rests : Nat → Int64} {x_placeNames : Nat → Int32} {x_placeValues : Nat → Int64} {x_placeOuters : Nat → Int32} {x_procedureParts : Nat → Int64} {x_procedurePlaces : Nat → Int32} {x_continuationFrames : Nat → Int32} {x_frameTasks : Nat → Int32} {x_frameForms : Nat → Int64} {x_frameValues : Nat → Int64} {x_framePlaces : Nat → Int32} {x_frameNexts : Nat → Int32} {x_arguments : Nat → Int64} {x_outputs : Nat → Int32} {x_itemKinds : Nat → Int32} {x_itemNumbers : Nat → Int32} {x_openLists : Nat → Int64}
variable {y_size : Int32} {y_pairs : Int32} {y_open : Int32} {y_formCount : Int32} {y_places : Int32} {y_procedures : Int32} {y_continuationCount : Int32} {y_things : Int32} {y_foundCount : Int32} {y_argumentCount : Int32} {y_value : Int64} {y_form : Int64} {y_wherein : Int32} {y_next : Int32} {y_working : Int32} {y_ending : Int32} {y_counts : Int32} {y_made : Int32} {y_entered : Int32} {y_printCount : Int32} {y_itemCount : Int32} {y_text : Nat → Int32} {y_firsts : Nat → Int64} {y_rests : Nat → Int64} {y_heads : Nat → Int32} {y_lasts : Nat → Int32} {y_globals : Nat → Int64} {y_placeNames : Nat → Int32} {y_placeValues : Nat → Int64} {y_placeNexts : Nat → Int32} {y_procedureForms : Nat → Int64} {y_procedurePlaces : Nat → Int32} {y_continuations : Nat → Int32} {y_whats : Nat → Int32} {y_withs : Nat → Int64} {y_whereins : Nat → Int32} {y_soFars : Nat → Int32} {y_afters : Nat → Int32} {y_found : Nat → Int64} {y_foundNexts : Nat → Int32} {y_arguments : Nat → Int64} {y_prints : Nat → Int32} {y_itemKinds : Nat → Int32} {y_itemNumbers : Nat → Int32} {y_pile : Nat → Int64}
variable {T : Nat → Nat} {n px py pl np nc nf fo co cn et pc : Nat} {M : Nat → Nat → Prop} {G : Nat → Nat}
theorem zv_Vpair {y x : Int64} (h : zv_V M np nc y x) : (∃ k l, M k l ∧ k < 4294967296 ∧ l < 4294967296 ∧ y = zv_c 3 k ∧ x = zv_c 2 l) ∨ (∃ t k s l, t < 9 ∧ s < 9 ∧ t ≠ 3 ∧ s ≠ 2 ∧ k < 4294967296 ∧ l < 4294967296 ∧ y = zv_c t k ∧ x = zv_c s l) := by
  obtain ⟨t, a, s, l, v1, v2, v3, v4, vK⟩ := h
  have vb := zv_K_b vK
  have vp := zv_K_p vK
  by_cases z : t = 3
  · have := vp.1.mp z
    subst z this
    exact Or.inl ⟨a, l, vp.2.1 rfl, v1, v2, v3, v4⟩
  · exact Or.inr ⟨t, a, s, l, vb.1, vb.2, z, fun y => z (vp.1.mpr y), v1, v2, v3, v4⟩
theorem zv_Vn {y x : Int64} (h : zv_V M np nc y x) : (∃ k, k < 4294967296 ∧ y = zv_c 0 k ∧ x = zv_c 0 k) ∨ (∃ t k s l, t < 9 ∧ s < 9 ∧ t ≠ 0 ∧ s ≠ 0 ∧ k < 4294967296 ∧ l < 4294967296 ∧ y = zv_c t k ∧ x = zv_c s l) := by
  obtain ⟨t, a, s, l, v1, v2, v3, v4, vK⟩ := h
  have vb := zv_K_b vK
  have vp := zv_K_p vK
  by_cases z : t = 0
  · have hs := vp.2.2.2.1.mp z
    have hl := vp.2.2.2.2.2.2.2 (by omega)
    subst z hs hl
    exact Or.inl ⟨_, v1, v3, v4⟩
  · exact Or.inr ⟨t, a, s, l, vb.1, vb.2, z, fun y => z (vp.2.2.2.1.mpr y), v1, v2, v3, v4⟩
theorem zk_s2 {s l : Nat} (hs : s < 9) (hl : l < 4294967296) : zv_c s l >>> ((32 : Int32).toInt64 &&& 63) = 2 ↔ s = 2 := by
  rw [zv_sh (by omega) hl]
  exact pk_lEQ (a := s) (b := 2) (by omega) (by omega)
theorem zk_s0 {s l : Nat} (hs : s < 9) (hl : l < 4294967296) : zv_c s l >>> ((32 : Int32).toInt64 &&& 63) = 0 ↔ s = 0 := by
  rw [zv_sh (by omega) hl]
  exact pk_lEQ (a := s) (b := 0) (by omega) (by omega)
/-- X's and Y's ways to the pair -/
theorem xb_pair {post : SX → Prop} {k : Nat} {z : Int32} (hk : (k = 51 ∧ z = 1) ∨ (k = 52 ∧ z = 1) ∨ (k = 60 ∧ z = 2) ∨ (k = 61 ∧ z = 2)) (hp : wpX_usePair (fun u => match u with | (x_textLength, x_pairCount, x_placeCount, x_procedureCount, x_continuationCount, x_frameCount, x_state, x_ending, x_form, x_environment, x_frame, x_value, x_applied, x_argumentCount, x_countedCount, x_consCount, x_entryCount, x_outputCount, x_itemCount, x_text, x_firsts, x_rests, x_placeNames, x_placeValues, x_placeOuters, x_procedureParts, x_procedurePlaces, x_continuationFrames, x_frameTasks, x_frameForms, x_frameValues, x_framePlaces, x_frameNexts, x_arguments, x_outputs, x_itemKinds, x_itemNumbers, x_openLists) => post (x_textLength, x_pairCount, x_placeCount, x_procedureCount, x_continuationCount, x_frameCount, x_state, x_ending, x_form, x_environment, x_frame, x_value, x_applied, x_argumentCount, x_countedCount, x_consCount, x_entryCount, x_outputCount, x_itemCount, x_text, x_firsts, x_rests, x_placeNames, x_placeValues, x_placeOuters, x_procedureParts, x_procedurePlaces, x_continuationFrames, x_frameTasks, x_frameForms, x_frameValues, x_framePlaces, x_frameNexts, x_arguments, x_outputs, x_itemKinds, x_itemNumbers, x_openLists)) (x_textLength, x_pairCount, x_placeCount, x_procedureCount, x_continuationCount, x_frameCount, x_state, x_ending, x_form, x_environment, x_frame, x_value, x_applied, x_argumentCount, x_countedCount, x_consCount, x_entryCount, x_outputCount, x_itemCount, x_text, x_firsts, x_rests, x_placeNames, x_placeValues, x_placeOuters, x_procedureParts, x_procedurePlaces, x_continuationFrames, x_frameTasks, x_frameForms, x_frameValues, x_framePlaces, x_frameNexts, x_arguments, x_outputs, x_itemKinds, x_itemNumbers, x_openLists) (nI k)) : wX_applyBuiltIn_43 post (nI k) z z x_textLength x_pairCount x_placeCount x_procedureCount x_continuationCount x_frameCount x_state x_ending x_form x_environment x_frame x_value x_applied x_argumentCount x_countedCount x_consCount x_entryCount x_outputCount x_itemCount x_text x_firsts x_rests x_placeNames x_placeValues x_placeOuters x_procedureParts x_procedurePlaces x_continuationFrames x_frameTasks x_frameForms x_frameValues x_framePlaces x_frameNexts x_arguments x_outputs x_itemKinds x_itemNumbers x_openLists := by
  rcases hk with ⟨rfl, rfl⟩ | ⟨rfl, rfl⟩ | ⟨rfl, rfl⟩ | ⟨rfl, rfl⟩
  · exact br_t rfl (br_f (by decide) (br_f (by decide) (br_f (by decide) (br_t rfl hp))))
  · exact br_t rfl (br_f (by decide) (br_f (by decide) (br_f (by decide) (br_f (by decide) (br_t rfl hp)))))
  · exact br_t rfl (br_f (by decide) (br_f (by decide) (br_f (by decide) (br_f (by decide) (br_f (by decide) (br_f (by decide) (br_f (by decide) (br_f (by decide) (br_f (by decide) (br_f (by decide) (br_f (by decide) (br_f (by decide) (br_t rfl hp)))))))))))))
  · exact br_t rfl (br_f (by decide) (br_f (by decide) (br_f (by decide) (br_f (by decide) (br_f (by decide) (br_f (by decide) (br_f (by decide) (br_f (by decide) (br_f (by decide) (br_f (by decide) (br_f (by decide) (br_f (by decide) (br_f (by decide) (br_t rfl hp))))))))))))))
theorem yb_pair {post : SY → Prop} {k : Nat} {a b : Int64} (hk : k = 51 ∨ k = 52 ∨ k = 60 ∨ k = 61) (hp : wpY_applyToPair (fun u => match u with | (y_size, y_pairs, y_open, y_formCount, y_places, y_procedures, y_continuationCount, y_things, y_foundCount, y_argumentCount, y_value, y_form, y_wherein, y_next, y_working, y_ending, y_counts, y_made, y_entered, y_printCount, y_itemCount, y_text, y_firsts, y_rests, y_heads, y_lasts, y_globals, y_placeNames, y_placeValues, y_placeNexts, y_procedureForms, y_procedurePlaces, y_continuations, y_whats, y_withs, y_whereins, y_soFars, y_afters, y_found, y_foundNexts, y_arguments, y_prints, y_itemKinds, y_itemNumbers, y_pile) => post (y_size, y_pairs, y_open, y_formCount, y_places, y_procedures, y_continuationCount, y_things, y_foundCount, y_argumentCount, y_value, y_form, y_wherein, y_next, y_working, y_ending, y_counts, y_made, y_entered, y_printCount, y_itemCount, y_text, y_firsts, y_rests, y_heads, y_lasts, y_globals, y_placeNames, y_placeValues, y_placeNexts, y_procedureForms, y_procedurePlaces, y_continuations, y_whats, y_withs, y_whereins, y_soFars, y_afters, y_found, y_foundNexts, y_arguments, y_prints, y_itemKinds, y_itemNumbers, y_pile)) (y_size, y_pairs, y_open, y_formCount, y_places, y_procedures, y_continuationCount, y_things, y_foundCount, y_argumentCount, y_value, y_form, y_wherein, y_next, y_working, y_ending, y_counts, y_made, y_entered, y_printCount, y_itemCount, y_text, y_firsts, y_rests, y_heads, y_lasts, y_globals, y_placeNames, y_placeValues, y_placeNexts, y_procedureForms, y_procedurePlaces, y_continuations, y_whats, y_withs, y_whereins, y_soFars, y_afters, y_found, y_foundNexts, y_arguments, y_prints, y_itemKinds, y_itemNumbers, y_pile) (nI k) a b) : wpY_applyBuiltIn post (y_size, y_pairs, y_open, y_formCount, y_places, y_procedures, y_continuationCount, y_things, y_foundCount, y_argumentCount, y_value, y_form, y_wherein, y_next, y_working, y_ending, y_counts, y_made, y_entered, y_printCount, y_itemCount, y_text, y_firsts, y_rests, y_heads, y_lasts, y_globals, y_placeNames, y_placeValues, y_placeNexts, y_procedureForms, y_procedurePlaces, y_continuations, y_whats, y_withs, y_whereins, y_soFars, y_afters, y_found, y_foundNexts, y_arguments, y_prints, y_itemKinds, y_itemNumbers, y_pile) (nI k) a b := by
  rcases hk with rfl | rfl | rfl | rfl
  · exact br_f (by decide) (br_f (by decide) (br_f (by decide) (br_f (by decide) (br_t rfl hp))))
  · exact br_f (by decide) (br_f (by decide) (br_f (by decide) (br_f (by decide) (br_f (by decide) (br_t rfl hp)))))
  · exact br_f (by decide) (br_f (by decide) (br_f (by decide) (br_f (by decide) (br_f (by decide) (br_f (by decide) (br_t rfl hp))))))
  · exact br_f (by decide) (br_f (by decide) (br_f (by decide) (br_f (by decide) (br_f (by decide) (br_f (by decide) (br_f (by decide) (br_t rfl hp)))))))
theorem bi_pair {k : Nat} {z : Int32} (h : sm_R T n M G px py pl np nc nf fo co cn et pc (x_textLength, x_pairCount, x_placeCount, x_procedureCount, x_continuationCount, x_frameCount, x_state, -1, x_form, x_environment, x_frame, x_value, x_applied, x_argumentCount, x_countedCount, x_consCount, x_entryCount, x_outputCount, x_itemCount, x_text, x_firsts, x_rests, x_placeNames, x_placeValues, x_placeOuters, x_procedureParts, x_procedurePlaces, x_continuationFrames, x_frameTasks, x_frameForms, x_frameValues, x_framePlaces, x_frameNexts, x_arguments, x_outputs, x_itemKinds, x_itemNumbers, x_openLists) (y_size, y_pairs, y_open, y_formCount, y_places, y_procedures, y_continuationCount, y_things, y_foundCount, y_argumentCount, y_value, y_form, y_wherein, y_next, y_working, -1000000003, y_counts, y_made, y_entered, y_printCount, y_itemCount, y_text, y_firsts, y_rests, y_heads, y_lasts, y_globals, y_placeNames, y_placeValues, y_placeNexts, y_procedureForms, y_procedurePlaces, y_continuations, y_whats, y_withs, y_whereins, y_soFars, y_afters, y_found, y_foundNexts, y_arguments, y_prints, y_itemKinds, y_itemNumbers, y_pile)) (hb : fo ≤ co ∧ nf ≤ co) (hf : x_frame = y_next) (hf2 : fm_N nf y_next) (hk : (k = 51 ∧ z = 1) ∨ (k = 52 ∧ z = 1) ∨ (k = 60 ∧ z = 2) ∨ (k = 61 ∧ z = 2)) (h0 : zv_V M np nc (y_arguments 0) (x_arguments 0)) (h1 : 60 ≤ k → zv_V M np nc (y_arguments 1) (x_arguments 1)) :
    ∃ u' v', (∀ post : SX → Prop, post u' → wX_applyBuiltIn_43 post (nI k) z z x_textLength x_pairCount x_placeCount x_procedureCount x_continuationCount x_frameCount x_state (-1) x_form x_environment x_frame x_value x_applied x_argumentCount x_countedCount x_consCount x_entryCount x_outputCount x_itemCount x_text x_firsts x_rests x_placeNames x_placeValues x_placeOuters x_procedureParts x_procedurePlaces x_continuationFrames x_frameTasks x_frameForms x_frameValues x_framePlaces x_frameNexts x_arguments x_outputs x_itemKinds x_itemNumbers x_openLists) ∧ (∀ post : SY → Prop, post v' → wpY_applyBuiltIn post (y_size, y_pairs, y_open, y_formCount, y_places, y_procedures, y_continuationCount, y_things, y_foundCount, y_argumentCount, y_value, y_form, y_wherein, y_next, y_working, -1000000003, y_counts, y_made, y_entered, y_printCount, y_itemCount, y_text, y_firsts, y_rests, y_heads, y_lasts, y_globals, y_placeNames, y_placeValues, y_placeNexts, y_procedureForms, y_procedurePlaces, y_continuations, y_whats, y_withs, y_whereins, y_soFars, y_afters, y_found, y_foundNexts, y_arguments, y_prints, y_itemKinds, y_itemNumbers, y_pile) (nI k) (y_arguments 0) (y_arguments 1)) ∧ sm_to T n co u' v' := by
  have hr := h
  obtain ⟨a0, _, _, b0, c1, c2, _⟩ := hr
  rcases zv_Vpair h0 with ⟨p, q, hM, p1, q1, ey, ex⟩ | ⟨t, a, s, l, t1, s1, t2, s2, a1, l1, ey, ex⟩
  · obtain ⟨p2, q2⟩ := c2.1.1 _ _ hM
    obtain ⟨w1, w2⟩ := c2.1.2.2.2.1 _ _ hM
    have hx : x_arguments 0 >>> ((32 : Int32).toInt64 &&& 63) = 2 := by rw [ex]; exact (zk_s2 (by decide) q1).mpr rfl
    have hxi : (x_arguments 0).toInt32 = nI q := by rw [ex, zv_lo]
    have eq : (nI q).toNatClampNeg = q := nI_clamp (by omega)
    have hiq : vp_in (nI q) 1400 := vp_in_nI (by omega) (by decide)
    have ep : (zv_c 3 p).toInt32.toNatClampNeg = p := zv_cl (by omega)
    have hip : vp_in (zv_c 3 p).toInt32 900 := zv_in (by omega) (by decide)
    rcases hk with ⟨rfl, rfl⟩ | ⟨rfl, rfl⟩ | ⟨rfl, rfl⟩ | ⟨rfl, rfl⟩
    · have ht := sm_toV h hb rfl rfl w1 hf hf2
      refine ⟨_, _, fun post hp => xb_pair (Or.inl ⟨rfl, rfl⟩) (br_t hx (nm_r hxi (br_t rfl ⟨hiq, ?_⟩))), fun post hp => yb_pair (by omega) ?_, ht⟩
      · rw [eq]; exact hp
      · rw [ey]
        unfold wpY_applyToPair
        exact ys_isPair_t p1 (br_f (by decide) (br_f (by decide) (br_t rfl (ys_firstOf (by omega) hp))))
    · have ht := sm_toV h hb rfl rfl w2 hf hf2
      refine ⟨_, _, fun post hp => xb_pair (Or.inr (Or.inl ⟨rfl, rfl⟩)) (br_t hx (nm_r hxi (br_f (by decide) (br_t rfl ⟨hiq, ?_⟩)))), fun post hp => yb_pair (by omega) ?_, ht⟩
      · rw [eq]; exact hp
      · rw [ey]
        unfold wpY_applyToPair
        exact ys_isPair_t p1 (br_f (by decide) (br_f (by decide) (br_f (by decide) (ys_restOf (by omega) hp))))
    · have hs := rk_set h hM (h1 (by decide)) w2
      rw [up_self x_rests q] at hs
      have ht := sm_toV hs hb rfl rfl zv_Vnoth hf hf2
      refine ⟨_, _, fun post hp => xb_pair (Or.inr (Or.inr (Or.inl ⟨rfl, rfl⟩))) (br_t hx (nm_r hxi (br_f (by decide) (br_f (by decide) (br_t rfl ⟨hiq, nm_r (cl_L eq) ?_⟩))))), fun post hp => yb_pair (by omega) ?_, ht⟩
      · rw [zk_xN]; exact hp
      · rw [ey]
        unfold wpY_applyToPair
        refine ys_isPair_t p1 (br_f (by decide) (br_t (by decide) (br_t rfl ⟨hip, nm_r (cl_L ep) (br_f (by decide) ⟨hip, hip, ?_⟩)⟩)))
        rw [(cl_R ep : y_rests (zv_c 3 p).toInt32.toNatClampNeg = y_rests p)]
        exact nm_r (cl_L ep) (ys_thing (t := 8) (k := 0) rfl rfl (by decide) (by decide) hp)
    · have hs := rk_set h hM w1 (h1 (by decide))
      rw [up_self x_firsts q] at hs
      have ht := sm_toV hs hb rfl rfl zv_Vnoth hf hf2
      refine ⟨_, _, fun post hp => xb_pair (Or.inr (Or.inr (Or.inr ⟨rfl, rfl⟩))) (br_t hx (nm_r hxi (br_f (by decide) (br_f (by decide) (br_f (by decide) ⟨hiq, nm_r (cl_L eq) ?_⟩))))), fun post hp => yb_pair (by omega) ?_, ht⟩
      · rw [zk_xN]; exact hp
      · rw [ey]
        unfold wpY_applyToPair
        refine ys_isPair_t p1 (br_f (by decide) (br_t (by decide) (br_f (by decide) ⟨hip, hip, ?_⟩)))
        rw [(cl_R ep : y_firsts (zv_c 3 p).toInt32.toNatClampNeg = y_firsts p)]
        exact nm_r (cl_L ep) (br_t rfl ⟨hip, nm_r (cl_L ep) (ys_thing (t := 8) (k := 0) rfl rfl (by decide) (by decide) hp)⟩)
  · have hE := sm_E_R (e := 7) h (by decide) (by decide)
    refine ⟨_, _, fun post hp => xb_pair hk (br_f (by rw [ex]; exact fun y => s2 ((zk_s2 s1 l1).mp y)) hp), fun post hp => yb_pair (by omega) ?_, Or.inl hE⟩
    rw [ey]
    unfold wpY_applyToPair
    exact ys_isPair_f (by omega) t2 a1 (br_t rfl hp)
theorem xs_giveNumber {post : SX → Prop} {x : Int32} {r : Nat} (hr : r < 4294967296) (hx : x = nI r) (hp : post (x_textLength, x_pairCount, x_placeCount, x_procedureCount, x_continuationCount, x_frameCount, 2, x_ending, x_form, x_environment, x_frame, zv_c 0 r, x_applied, x_argumentCount, x_countedCount, x_consCount, x_entryCount, x_outputCount, x_itemCount, x_text, x_firsts, x_rests, x_placeNames, x_placeValues, x_placeOuters, x_procedureParts, x_procedurePlaces, x_continuationFrames, x_frameTasks, x_frameForms, x_frameValues, x_framePlaces, x_frameNexts, x_arguments, x_outputs, x_itemKinds, x_itemNumbers, x_openLists)) : wpX_giveNumber post (x_textLength, x_pairCount, x_placeCount, x_procedureCount, x_continuationCount, x_frameCount, x_state, x_ending, x_form, x_environment, x_frame, x_value, x_applied, x_argumentCount, x_countedCount, x_consCount, x_entryCount, x_outputCount, x_itemCount, x_text, x_firsts, x_rests, x_placeNames, x_placeValues, x_placeOuters, x_procedureParts, x_procedurePlaces, x_continuationFrames, x_frameTasks, x_frameForms, x_frameValues, x_framePlaces, x_frameNexts, x_arguments, x_outputs, x_itemKinds, x_itemNumbers, x_openLists) x := by
  subst hx
  refine nm_r ?_ hp
  rw [zv_sx hr, Int64.zero_or]
  unfold zv_c
  rw [Nat.zero_mul, Nat.zero_add]
theorem xb_calc {post : SX → Prop} {k : Nat} (h1 : 56 ≤ k) (h2 : k ≤ 59) (hp : wpX_calculate (fun u => match u with | (x_textLength, x_pairCount, x_placeCount, x_procedureCount, x_continuationCount, x_frameCount, x_state, x_ending, x_form, x_environment, x_frame, x_value, x_applied, x_argumentCount, x_countedCount, x_consCount, x_entryCount, x_outputCount, x_itemCount, x_text, x_firsts, x_rests, x_placeNames, x_placeValues, x_placeOuters, x_procedureParts, x_procedurePlaces, x_continuationFrames, x_frameTasks, x_frameForms, x_frameValues, x_framePlaces, x_frameNexts, x_arguments, x_outputs, x_itemKinds, x_itemNumbers, x_openLists) => post (x_textLength, x_pairCount, x_placeCount, x_procedureCount, x_continuationCount, x_frameCount, x_state, x_ending, x_form, x_environment, x_frame, x_value, x_applied, x_argumentCount, x_countedCount, x_consCount, x_entryCount, x_outputCount, x_itemCount, x_text, x_firsts, x_rests, x_placeNames, x_placeValues, x_placeOuters, x_procedureParts, x_procedurePlaces, x_continuationFrames, x_frameTasks, x_frameForms, x_frameValues, x_framePlaces, x_frameNexts, x_arguments, x_outputs, x_itemKinds, x_itemNumbers, x_openLists)) (x_textLength, x_pairCount, x_placeCount, x_procedureCount, x_continuationCount, x_frameCount, x_state, x_ending, x_form, x_environment, x_frame, x_value, x_applied, x_argumentCount, x_countedCount, x_consCount, x_entryCount, x_outputCount, x_itemCount, x_text, x_firsts, x_rests, x_placeNames, x_placeValues, x_placeOuters, x_procedureParts, x_procedurePlaces, x_continuationFrames, x_frameTasks, x_frameForms, x_frameValues, x_framePlaces, x_frameNexts, x_arguments, x_outputs, x_itemKinds, x_itemNumbers, x_openLists) (nI k)) : wX_applyBuiltIn_43 post (nI k) 2 2 x_textLength x_pairCount x_placeCount x_procedureCount x_continuationCount x_frameCount x_state x_ending x_form x_environment x_frame x_value x_applied x_argumentCount x_countedCount x_consCount x_entryCount x_outputCount x_itemCount x_text x_firsts x_rests x_placeNames x_placeValues x_placeOuters x_procedureParts x_procedurePlaces x_continuationFrames x_frameTasks x_frameForms x_frameValues x_framePlaces x_frameNexts x_arguments x_outputs x_itemKinds x_itemNumbers x_openLists := by
  have hk : k = 56 ∨ k = 57 ∨ k = 58 ∨ k = 59 := by omega
  rcases hk with rfl | rfl | rfl | rfl
  · exact br_t rfl (br_f (by decide) (br_f (by decide) (br_f (by decide) (br_f (by decide) (br_f (by decide) (br_f (by decide) (br_f (by decide) (br_f (by decide) (br_t rfl hp)))))))))
  · exact br_t rfl (br_f (by decide) (br_f (by decide) (br_f (by decide) (br_f (by decide) (br_f (by decide) (br_f (by decide) (br_f (by decide) (br_f (by decide) (br_f (by decide) (br_t rfl hp))))))))))
  · exact br_t rfl (br_f (by decide) (br_f (by decide) (br_f (by decide) (br_f (by decide) (br_f (by decide) (br_f (by decide) (br_f (by decide) (br_f (by decide) (br_f (by decide) (br_f (by decide) (br_t rfl hp)))))))))))
  · exact br_t rfl (br_f (by decide) (br_f (by decide) (br_f (by decide) (br_f (by decide) (br_f (by decide) (br_f (by decide) (br_f (by decide) (br_f (by decide) (br_f (by decide) (br_f (by decide) (br_f (by decide) (br_t rfl hp))))))))))))
theorem yb_calc {post : SY → Prop} {k t a t' a' : Nat} (h1 : 56 ≤ k) (h2 : k ≤ 59) (ht : t < 9) (ha : a < 4294967296) (ht' : t' < 9) (ha' : a' < 4294967296) (hp : t = 0 → t' = 0 → wY_applyBuiltIn_178 post (nI k) (zv_c t a) (zv_c t' a') y_size y_pairs y_open y_formCount y_places y_procedures y_continuationCount y_things y_foundCount y_argumentCount y_value y_form y_wherein y_next y_working y_ending y_counts y_made y_entered y_printCount y_itemCount y_text y_firsts y_rests y_heads y_lasts y_globals y_placeNames y_placeValues y_placeNexts y_procedureForms y_procedurePlaces y_continuations y_whats y_withs y_whereins y_soFars y_afters y_found y_foundNexts y_arguments y_prints y_itemKinds y_itemNumbers y_pile) (hq : ¬ (t = 0 ∧ t' = 0) → post (y_size, y_pairs, y_open, y_formCount, y_places, y_procedures, y_continuationCount, y_things, y_foundCount, y_argumentCount, y_value, y_form, y_wherein, y_next, y_working, 7, y_counts, y_made, y_entered, y_printCount, y_itemCount, y_text, y_firsts, y_rests, y_heads, y_lasts, y_globals, y_placeNames, y_placeValues, y_placeNexts, y_procedureForms, y_procedurePlaces, y_continuations, y_whats, y_withs, y_whereins, y_soFars, y_afters, y_found, y_foundNexts, y_arguments, y_prints, y_itemKinds, y_itemNumbers, y_pile)) : wpY_applyBuiltIn post (y_size, y_pairs, y_open, y_formCount, y_places, y_procedures, y_continuationCount, y_things, y_foundCount, y_argumentCount, y_value, y_form, y_wherein, y_next, y_working, y_ending, y_counts, y_made, y_entered, y_printCount, y_itemCount, y_text, y_firsts, y_rests, y_heads, y_lasts, y_globals, y_placeNames, y_placeValues, y_placeNexts, y_procedureForms, y_procedurePlaces, y_continuations, y_whats, y_withs, y_whereins, y_soFars, y_afters, y_found, y_foundNexts, y_arguments, y_prints, y_itemKinds, y_itemNumbers, y_pile) (nI k) (zv_c t a) (zv_c t' a') := by
  have hn : ∀ j, j < 56 ∨ 59 < j → j < 100 → ¬ nI k = nI j := fun j h h3 => ne_I (by omega) (by omega) (by omega)
  refine br_f (hn 50 (by omega) (by omega)) (br_f (hn 53 (by omega) (by omega)) (br_f (hn 54 (by omega) (by omega)) (br_f (hn 55 (by omega) (by omega)) (br_f (hn 51 (by omega) (by omega)) (br_f (hn 52 (by omega) (by omega)) (br_f (hn 60 (by omega) (by omega)) (br_f (hn 61 (by omega) (by omega)) (ys_tag (by omega) ha ?_))))))))
  by_cases z : t = 0
  · refine br_t (by rw [z]; rfl) (br_f (hn 62 (by omega) (by omega)) (ys_tag (by omega) ha' ?_))
    by_cases z' : t' = 0
    · exact br_t (by rw [z']; rfl) (hp z z')
    · exact br_f (ne_I (b := 0) z' (by omega) (by decide)) (hq (fun w => z' w.2))
  · exact br_f (ne_I (b := 0) z (by omega) (by decide)) (hq (fun w => z w.1))
theorem bi_calc {k : Nat} (h : sm_R T n M G px py pl np nc nf fo co cn et pc (x_textLength, x_pairCount, x_placeCount, x_procedureCount, x_continuationCount, x_frameCount, x_state, -1, x_form, x_environment, x_frame, x_value, x_applied, x_argumentCount, x_countedCount, x_consCount, x_entryCount, x_outputCount, x_itemCount, x_text, x_firsts, x_rests, x_placeNames, x_placeValues, x_placeOuters, x_procedureParts, x_procedurePlaces, x_continuationFrames, x_frameTasks, x_frameForms, x_frameValues, x_framePlaces, x_frameNexts, x_arguments, x_outputs, x_itemKinds, x_itemNumbers, x_openLists) (y_size, y_pairs, y_open, y_formCount, y_places, y_procedures, y_continuationCount, y_things, y_foundCount, y_argumentCount, y_value, y_form, y_wherein, y_next, y_working, -1000000003, y_counts, y_made, y_entered, y_printCount, y_itemCount, y_text, y_firsts, y_rests, y_heads, y_lasts, y_globals, y_placeNames, y_placeValues, y_placeNexts, y_procedureForms, y_procedurePlaces, y_continuations, y_whats, y_withs, y_whereins, y_soFars, y_afters, y_found, y_foundNexts, y_arguments, y_prints, y_itemKinds, y_itemNumbers, y_pile)) (hb : fo ≤ co ∧ nf ≤ co) (hf : x_frame = y_next) (hf2 : fm_N nf y_next) (k1 : 56 ≤ k) (k2 : k ≤ 59) (h0 : zv_V M np nc (y_arguments 0) (x_arguments 0)) (h1 : zv_V M np nc (y_arguments 1) (x_arguments 1)) :
    ∃ u' v', (∀ post : SX → Prop, post u' → wX_applyBuiltIn_43 post (nI k) 2 2 x_textLength x_pairCount x_placeCount x_procedureCount x_continuationCount x_frameCount x_state (-1) x_form x_environment x_frame x_value x_applied x_argumentCount x_countedCount x_consCount x_entryCount x_outputCount x_itemCount x_text x_firsts x_rests x_placeNames x_placeValues x_placeOuters x_procedureParts x_procedurePlaces x_continuationFrames x_frameTasks x_frameForms x_frameValues x_framePlaces x_frameNexts x_arguments x_outputs x_itemKinds x_itemNumbers x_openLists) ∧ (∀ post : SY → Prop, post v' → wpY_applyBuiltIn post (y_size, y_pairs, y_open, y_formCount, y_places, y_procedures, y_continuationCount, y_things, y_foundCount, y_argumentCount, y_value, y_form, y_wherein, y_next, y_working, -1000000003, y_counts, y_made, y_entered, y_printCount, y_itemCount, y_text, y_firsts, y_rests, y_heads, y_lasts, y_globals, y_placeNames, y_placeValues, y_placeNexts, y_procedureForms, y_procedurePlaces, y_continuations, y_whats, y_withs, y_whereins, y_soFars, y_afters, y_found, y_foundNexts, y_arguments, y_prints, y_itemKinds, y_itemNumbers, y_pile) (nI k) (y_arguments 0) (y_arguments 1)) ∧ sm_to T n co u' v' := by
  have hE := sm_E_R (e := 7) h (by decide) (by decide)
  rcases zv_Vn h0 with ⟨a, a1, ey, ex⟩ | ⟨t, a, s, l, t1, s1, t2, s2, a1, l1, ey, ex⟩
  · have hx0 : x_arguments 0 >>> ((32 : Int32).toInt64 &&& 63) = 0 := by rw [ex]; exact (zk_s0 (by decide) a1).mpr rfl
    have hi0 : (x_arguments 0).toInt32 = nI a := by rw [ex, zv_lo]
    rcases zv_Vn h1 with ⟨b, b1, fy, fx⟩ | ⟨t, b, s, l, t1, s1, t2, s2, b1, l1, fy, fx⟩
    · have hx1 : x_arguments 1 >>> ((32 : Int32).toInt64 &&& 63) = 0 := by rw [fx]; exact (zk_s0 (by decide) b1).mpr rfl
      have hi1 : (x_arguments 1).toInt32 = nI b := by rw [fx, zv_lo]
      have hk : k = 56 ∨ k = 57 ∨ k = 58 ∨ k = 59 := by omega
      rcases hk with rfl | rfl | rfl | rfl
      · obtain ⟨r, r1, r2⟩ := wb_of32 (nI a + nI b)
        have ht := sm_toV h hb rfl rfl (zv_Vnum (k := r) (by omega)) hf hf2
        refine ⟨_, _, fun post hp => xb_calc (by decide) (by decide) (br_t hx0 (br_t hx1 (nm_r hi0 (nm_r hi1 (br_f (by decide) (br_f (by decide) (br_t rfl (xs_giveNumber (by omega) r2 hp)))))))), fun post hp => ?_, ht⟩
        rw [ey, fy]
        refine yb_calc (by decide) (by decide) (by decide) a1 (by decide) b1 (fun _ _ => ?_) (fun w => absurd ⟨rfl, rfl⟩ w)
        refine br_f (by decide) (br_f (by decide) (br_t rfl ?_))
        rw [zv_lo, zv_lo, r2]
        exact ys_thing (t := 0) (k := r) rfl rfl (by decide) (by omega) hp
      · obtain ⟨r, r1, r2⟩ := wb_of32 (nI a - nI b)
        have ht := sm_toV h hb rfl rfl (zv_Vnum (k := r) (by omega)) hf hf2
        refine ⟨_, _, fun post hp => xb_calc (by decide) (by decide) (br_t hx0 (br_t hx1 (nm_r hi0 (nm_r hi1 (br_f (by decide) (br_f (by decide) (br_f (by decide) (br_t rfl (xs_giveNumber (by omega) r2 hp))))))))), fun post hp => ?_, ht⟩
        rw [ey, fy]
        refine yb_calc (by decide) (by decide) (by decide) a1 (by decide) b1 (fun _ _ => ?_) (fun w => absurd ⟨rfl, rfl⟩ w)
        refine br_f (by decide) (br_f (by decide) (br_f (by decide) (br_t rfl ?_)))
        rw [zv_lo, zv_lo, r2]
        exact ys_thing (t := 0) (k := r) rfl rfl (by decide) (by omega) hp
      · obtain ⟨r, r1, r2⟩ := wb_of32 (nI a * nI b)
        have ht := sm_toV h hb rfl rfl (zv_Vnum (k := r) (by omega)) hf hf2
        refine ⟨_, _, fun post hp => xb_calc (by decide) (by decide) (br_t hx0 (br_t hx1 (nm_r hi0 (nm_r hi1 (br_f (by decide) (br_f (by decide) (br_f (by decide) (br_f (by decide) (br_t rfl (xs_giveNumber (by omega) r2 hp)))))))))), fun post hp => ?_, ht⟩
        rw [ey, fy]
        refine yb_calc (by decide) (by decide) (by decide) a1 (by decide) b1 (fun _ _ => ?_) (fun w => absurd ⟨rfl, rfl⟩ w)
        refine br_f (by decide) (br_f (by decide) (br_f (by decide) (br_f (by decide) ?_)))
        rw [zv_lo, zv_lo, r2]
        exact ys_thing (t := 0) (k := r) rfl rfl (by decide) (by omega) hp
      · by_cases c : nI b ≤ nI a
        · have ht := sm_toV h hb rfl rfl (zv_Vtruth (b := 0) (by decide)) hf hf2
          refine ⟨_, _, fun post hp => xb_calc (by decide) (by decide) (br_t hx0 (br_t hx1 (nm_r hi0 (nm_r hi1 (br_f (by decide) (br_t (by decide) (br_t c (xs_truth (b := 0) (by decide) hp)))))))), fun post hp => ?_, ht⟩
          rw [ey, fy]
          refine yb_calc (by decide) (by decide) (by decide) a1 (by decide) b1 (fun _ _ => ?_) (fun w => absurd ⟨rfl, rfl⟩ w)
          exact br_f (by decide) (br_t rfl (br_t (by rw [zv_lo, zv_lo]; exact c) (ys_truth (b := 0) (by decide) hp)))
        · have ht := sm_toV h hb rfl rfl (zv_Vtruth (b := 1) (by decide)) hf hf2
          refine ⟨_, _, fun post hp => xb_calc (by decide) (by decide) (br_t hx0 (br_t hx1 (nm_r hi0 (nm_r hi1 (br_f (by decide) (br_t (by decide) (br_f c (xs_truth (b := 1) (by decide) hp)))))))), fun post hp => ?_, ht⟩
          rw [ey, fy]
          refine yb_calc (by decide) (by decide) (by decide) a1 (by decide) b1 (fun _ _ => ?_) (fun w => absurd ⟨rfl, rfl⟩ w)
          exact br_f (by decide) (br_t rfl (br_f (by rw [zv_lo, zv_lo]; exact c) (ys_truth (b := 1) (by decide) hp)))
    · refine ⟨_, _, fun post hp => xb_calc k1 k2 (br_t hx0 (br_f (by rw [fx]; exact fun y => s2 ((zk_s0 s1 l1).mp y)) hp)), fun post hp => ?_, Or.inl hE⟩
      rw [ey, fy]
      exact yb_calc k1 k2 (by decide) a1 t1 b1 (fun _ w => absurd w t2) (fun _ => hp)
  · obtain ⟨t', b, s', l', b1, _, fy, _, vK⟩ := h1
    have vb := zv_K_b vK
    refine ⟨_, _, fun post hp => xb_calc k1 k2 (br_f (by rw [ex]; exact fun y => s2 ((zk_s0 s1 l1).mp y)) hp), fun post hp => ?_, Or.inl hE⟩
    rw [ey, fy]
    exact yb_calc k1 k2 t1 a1 vb.1 b1 (fun w => absurd w t2) (fun _ => hp)
theorem bi_print (h : sm_R T n M G px py pl np nc nf fo co cn et pc (x_textLength, x_pairCount, x_placeCount, x_procedureCount, x_continuationCount, x_frameCount, x_state, -1, x_form, x_environment, x_frame, x_value, x_applied, x_argumentCount, x_countedCount, x_consCount, x_entryCount, x_outputCount, x_itemCount, x_text, x_firsts, x_rests, x_placeNames, x_placeValues, x_placeOuters, x_procedureParts, x_procedurePlaces, x_continuationFrames, x_frameTasks, x_frameForms, x_frameValues, x_framePlaces, x_frameNexts, x_arguments, x_outputs, x_itemKinds, x_itemNumbers, x_openLists) (y_size, y_pairs, y_open, y_formCount, y_places, y_procedures, y_continuationCount, y_things, y_foundCount, y_argumentCount, y_value, y_form, y_wherein, y_next, y_working, -1000000003, y_counts, y_made, y_entered, y_printCount, y_itemCount, y_text, y_firsts, y_rests, y_heads, y_lasts, y_globals, y_placeNames, y_placeValues, y_placeNexts, y_procedureForms, y_procedurePlaces, y_continuations, y_whats, y_withs, y_whereins, y_soFars, y_afters, y_found, y_foundNexts, y_arguments, y_prints, y_itemKinds, y_itemNumbers, y_pile)) (hb : fo ≤ co ∧ nf ≤ co) (hf : x_frame = y_next) (hf2 : fm_N nf y_next) (h0 : zv_V M np nc (y_arguments 0) (x_arguments 0)) :
    ∃ u' v', (∀ post : SX → Prop, post u' → wX_applyBuiltIn_43 post (nI 62) 1 1 x_textLength x_pairCount x_placeCount x_procedureCount x_continuationCount x_frameCount x_state (-1) x_form x_environment x_frame x_value x_applied x_argumentCount x_countedCount x_consCount x_entryCount x_outputCount x_itemCount x_text x_firsts x_rests x_placeNames x_placeValues x_placeOuters x_procedureParts x_procedurePlaces x_continuationFrames x_frameTasks x_frameForms x_frameValues x_framePlaces x_frameNexts x_arguments x_outputs x_itemKinds x_itemNumbers x_openLists) ∧ (∀ post : SY → Prop, post v' → wpY_applyBuiltIn post (y_size, y_pairs, y_open, y_formCount, y_places, y_procedures, y_continuationCount, y_things, y_foundCount, y_argumentCount, y_value, y_form, y_wherein, y_next, y_working, -1000000003, y_counts, y_made, y_entered, y_printCount, y_itemCount, y_text, y_firsts, y_rests, y_heads, y_lasts, y_globals, y_placeNames, y_placeValues, y_placeNexts, y_procedureForms, y_procedurePlaces, y_continuations, y_whats, y_withs, y_whereins, y_soFars, y_afters, y_found, y_foundNexts, y_arguments, y_prints, y_itemKinds, y_itemNumbers, y_pile) (nI 62) (y_arguments 0) (y_arguments 1)) ∧ sm_to T n co u' v' := by
  have hX : ∀ post : SX → Prop, wpX_printNumber (fun u => match u with | (x_textLength, x_pairCount, x_placeCount, x_procedureCount, x_continuationCount, x_frameCount, x_state, x_ending, x_form, x_environment, x_frame, x_value, x_applied, x_argumentCount, x_countedCount, x_consCount, x_entryCount, x_outputCount, x_itemCount, x_text, x_firsts, x_rests, x_placeNames, x_placeValues, x_placeOuters, x_procedureParts, x_procedurePlaces, x_continuationFrames, x_frameTasks, x_frameForms, x_frameValues, x_framePlaces, x_frameNexts, x_arguments, x_outputs, x_itemKinds, x_itemNumbers, x_openLists) => post (x_textLength, x_pairCount, x_placeCount, x_procedureCount, x_continuationCount, x_frameCount, x_state, x_ending, x_form, x_environment, x_frame, x_value, x_applied, x_argumentCount, x_countedCount, x_consCount, x_entryCount, x_outputCount, x_itemCount, x_text, x_firsts, x_rests, x_placeNames, x_placeValues, x_placeOuters, x_procedureParts, x_procedurePlaces, x_continuationFrames, x_frameTasks, x_frameForms, x_frameValues, x_framePlaces, x_frameNexts, x_arguments, x_outputs, x_itemKinds, x_itemNumbers, x_openLists)) (x_textLength, x_pairCount, x_placeCount, x_procedureCount, x_continuationCount, x_frameCount, x_state, -1, x_form, x_environment, x_frame, x_value, x_applied, x_argumentCount, x_countedCount, x_consCount, x_entryCount, x_outputCount, x_itemCount, x_text, x_firsts, x_rests, x_placeNames, x_placeValues, x_placeOuters, x_procedureParts, x_procedurePlaces, x_continuationFrames, x_frameTasks, x_frameForms, x_frameValues, x_framePlaces, x_frameNexts, x_arguments, x_outputs, x_itemKinds, x_itemNumbers, x_openLists) → wX_applyBuiltIn_43 post (nI 62) 1 1 x_textLength x_pairCount x_placeCount x_procedureCount x_continuationCount x_frameCount x_state (-1) x_form x_environment x_frame x_value x_applied x_argumentCount x_countedCount x_consCount x_entryCount x_outputCount x_itemCount x_text x_firsts x_rests x_placeNames x_placeValues x_placeOuters x_procedureParts x_procedurePlaces x_continuationFrames x_frameTasks x_frameForms x_frameValues x_framePlaces x_frameNexts x_arguments x_outputs x_itemKinds x_itemNumbers x_openLists := fun post hp =>
    br_t rfl (br_f (by decide) (br_f (by decide) (br_f (by decide) (br_f (by decide) (br_f (by decide) (br_f (by decide) (br_f (by decide) (br_f (by decide) (br_f (by decide) (br_f (by decide) (br_f (by decide) (br_f (by decide) (br_f (by decide) (br_f (by decide) (br_t rfl hp)))))))))))))))
  have hY : ∀ (post : SY → Prop) (t a : Nat), t < 9 → a < 4294967296 → y_arguments 0 = zv_c t a → (t = 0 → wY_applyBuiltIn_178 post (nI 62) (zv_c t a) (y_arguments 1) y_size y_pairs y_open y_formCount y_places y_procedures y_continuationCount y_things y_foundCount y_argumentCount y_value y_form y_wherein y_next y_working (-1000000003) y_counts y_made y_entered y_printCount y_itemCount y_text y_firsts y_rests y_heads y_lasts y_globals y_placeNames y_placeValues y_placeNexts y_procedureForms y_procedurePlaces y_continuations y_whats y_withs y_whereins y_soFars y_afters y_found y_foundNexts y_arguments y_prints y_itemKinds y_itemNumbers y_pile) → (t ≠ 0 → post (y_size, y_pairs, y_open, y_formCount, y_places, y_procedures, y_continuationCount, y_things, y_foundCount, y_argumentCount, y_value, y_form, y_wherein, y_next, y_working, 7, y_counts, y_made, y_entered, y_printCount, y_itemCount, y_text, y_firsts, y_rests, y_heads, y_lasts, y_globals, y_placeNames, y_placeValues, y_placeNexts, y_procedureForms, y_procedurePlaces, y_continuations, y_whats, y_withs, y_whereins, y_soFars, y_afters, y_found, y_foundNexts, y_arguments, y_prints, y_itemKinds, y_itemNumbers, y_pile)) → wpY_applyBuiltIn post (y_size, y_pairs, y_open, y_formCount, y_places, y_procedures, y_continuationCount, y_things, y_foundCount, y_argumentCount, y_value, y_form, y_wherein, y_next, y_working, -1000000003, y_counts, y_made, y_entered, y_printCount, y_itemCount, y_text, y_firsts, y_rests, y_heads, y_lasts, y_globals, y_placeNames, y_placeValues, y_placeNexts, y_procedureForms, y_procedurePlaces, y_continuations, y_whats, y_withs, y_whereins, y_soFars, y_afters, y_found, y_foundNexts, y_arguments, y_prints, y_itemKinds, y_itemNumbers, y_pile) (nI 62) (y_arguments 0) (y_arguments 1) := by
    intro post t a t1 a1 e p q
    rw [e]
    refine br_f (by decide) (br_f (by decide) (br_f (by decide) (br_f (by decide) (br_f (by decide) (br_f (by decide) (br_f (by decide) (br_f (by decide) (ys_tag (by omega) a1 ?_))))))))
    by_cases z : t = 0
    · exact br_t (by rw [z]; rfl) (br_t rfl (p z))
    · exact br_f (ne_I (b := 0) z (by omega) (by decide)) (q z)
  have h' := h
  obtain ⟨a0, ⟨n1, n2, n3, n4, n5, n6, n7, n8, n9, n10, n11⟩, ⟨m1, m2, m3, m4, m5, m6, m7, m8, m9, m10, m11⟩, b0, _⟩ := h
  subst n10 m11
  rcases zv_Vn h0 with ⟨a, a1, ey, ex⟩ | ⟨t, a, s, l, t1, s1, t2, s2, a1, l1, ey, ex⟩
  · have hx0 : x_arguments 0 >>> ((32 : Int32).toInt64 &&& 63) = 0 := by rw [ex]; exact (zk_s0 (by decide) a1).mpr rfl
    have hi0 : (x_arguments 0).toInt32 = nI a := by rw [ex, zv_lo]
    by_cases hc : pc < 20
    · have hk := rk_print (x := nI a) h' hc
      have ht := sm_toV hk hb rfl rfl h0 hf hf2
      have e : (nI pc).toNatClampNeg = pc := nI_clamp (by omega)
      refine ⟨_, _, fun post hp => hX post (br_t hx0 (br_t (nI_lt (b := 20) hc (by decide)) ⟨vp_in_nI hc (by decide), ?_⟩)), fun post hp => hY post 0 a (by decide) a1 ey (fun _ => ?_) (fun w => absurd rfl w), ht⟩
      · rw [hi0]
        exact nm_r (cl_I e) (nm_r (nI_1 pc) hp)
      · refine br_t rfl ?_
        rw [zv_lo]
        rw [ey] at hp
        exact br_f (ne_I (b := 20) (by omega) (by omega) (by decide)) ⟨vp_in_nI hc (by decide), nm_r (cl_I e) (nm_r (nI_1 pc) hp)⟩
    · have : pc = 20 := by omega
      subst this
      have hE := sm_Eg (e := 8) (q1 := x_state) (q3 := x_form) (q4 := x_environment) (q5 := x_frame) (q6 := x_value) (q7 := x_applied) (q8 := x_argumentCount) (q9 := x_arguments) (r3 := y_argumentCount) (r4 := zv_c 0 a) (r5 := y_form) (r6 := y_wherein) (r7 := y_next) (r8 := 0) (r13 := y_arguments) (r17 := y_globals) h' (by decide) (by decide)
      refine ⟨_, _, fun post hp => hX post (br_t hx0 (br_f (by decide) hp)), fun post hp => hY post 0 a (by decide) a1 ey (fun _ => br_t rfl (br_t rfl hp)) (fun w => absurd rfl w), Or.inl hE⟩
  · have hE := sm_E_R (e := 7) h' (by decide) (by decide)
    exact ⟨_, _, fun post hp => hX post (br_f (by rw [ex]; exact fun y => s2 ((zk_s0 s1 l1).mp y)) hp), fun post hp => hY post t a t1 a1 ey (fun w => absurd w t2) (fun _ => hp), Or.inl hE⟩
end
end
section
/-! a procedure is applied -/
section
variable {x_textLength : Int32} {x_pairCount : Int32} {x_placeCount : Int32} {x_procedureCount : Int32} {x_continuationCount : Int32} {x_frameCount : Int32} {x_state : Int32} {x_ending : Int32} {x_form : Int64} {x_environment : Int32} {x_frame : Int32} {x_value : Int64} {x_applied : Int64} {x_argumentCount : Int32} {x_countedCount : Int32} {x_consCount : Int32} {x_entryCount : Int32} {x_outputCount : Int32} {x_itemCount : Int32} {x_text : Nat → Int32} {x_firsts : Nat → Int64} {x_rests : Nat → Int64} {x_placeNames : Nat → Int32} {x_placeValues : Nat → Int64} {x_placeOuters : Nat → Int32} {x_procedureParts : Nat → Int64} {x_procedurePlaces : Nat → Int32} {x_continuationFrames : Nat → Int32} {x_frameTasks : Nat → Int32} {x_frameForms : Nat → Int64} {x_frameValues : Nat → Int64} {x_framePlaces : Nat → Int32} {x_frameNexts : Nat → Int32} {x_arguments : Nat → Int64} {x_outputs : Nat → Int32} {x_itemKinds : Nat → Int32} {x_itemNumbers : Nat → Int32} {x_openLists : Nat → Int64}
variable {y_size : Int32} {y_pairs : Int32} {y_open : Int32} {y_formCount : Int32} {y_places : Int32} {y_procedures : Int32} {y_continuationCount : Int32} {y_things : Int32} {y_foundCount : Int32} {y_argumentCount : Int32} {y_value : Int64} {y_form : Int64} {y_wherein : Int32} {y_next : Int32} {y_working : Int32} {y_ending : Int32} {y_counts : Int32} {y_made : Int32} {y_entered : Int32} {y_printCount : Int32} {y_itemCount : Int32} {y_text : Nat → Int32} {y_firsts : Nat → Int64} {y_rests : Nat → Int64} {y_heads : Nat → Int32} {y_lasts : Nat → Int32} {y_globals : Nat → Int64} {y_placeNames : Nat → Int32} {y_placeValues : Nat → Int64} {y_placeNexts : Nat → Int32} {y_procedureForms : Nat → Int64} {y_procedurePlaces : Nat → Int32} {y_continuations : Nat → Int32} {y_whats : Nat → Int32} {y_withs : Nat → Int64} {y_whereins : Nat → Int32} {y_soFars : Nat → Int32} {y_afters : Nat → Int32} {y_found : Nat → Int64} {y_foundNexts : Nat → Int32} {y_arguments : Nat → Int64} {y_prints : Nat → Int32} {y_itemKinds : Nat → Int32} {y_itemNumbers : Nat → Int32} {y_pile : Nat → Int64}
variable {T : Nat → Nat} {n px py np nc nf fo co cn et pc : Nat} {M : Nat → Nat → Prop} {G : Nat → Nat}
theorem na_pos {p c : Nat} (hR : pz_Rd T n) (hp : p < n) (hl : ls_P T n p) (h : na_L T p c) : ∀ i, i ≤ c → p + 1 + i < n ∧ ¬ pz_mk T (p + 1 + i) ∧ ¬ pz_D0 T (p + 1 + i) ∧ 1 ≤ pz_dd T (p + 1 + i) := by
  intro i
  induction i with
  | zero =>
    intro _
    obtain ⟨d1, d2, d3, _⟩ := cd_in hR hp h.1 (ls_CF hl)
    exact ⟨d1, d2, d3, by rw [Nat.add_zero, pz_dd_o h.1]; omega⟩
  | succ i ih =>
    intro hi
    obtain ⟨a1, a2, a3, a4⟩ := ih (by omega)
    have hn := h.2.2.1 i (by omega)
    obtain ⟨b1, b2⟩ := pz_nx_ok hR a1 (show T (p + 1 + i) ≠ 1 by omega)
    rw [pz_nx_a (by omega)] at b1 b2
    rw [show p + 1 + (i + 1) = p + 1 + i + 1 by omega]
    have hd : 1 ≤ pz_dd T (p + 1 + i + 1) := by rw [pz_Fm_dd b2]; exact a4
    exact ⟨na_q hR hd b1, pz_Fm_nmk b2, pz_D0n_e b2 a3, hd⟩
theorem na_len {p c : Nat} (hR : pz_Rd T n) (hp : p < n) (hl : ls_P T n p) (h : na_L T p c) : ∀ d i, i + d = c → pz_Ln T n d (p + 1 + i) := by
  intro d
  induction d with
  | zero =>
    intro i hi z
    have : i = c := by omega
    subst this
    exact z.2 h.2.2.2
  | succ d ih =>
    intro i hi
    have hn := h.2.2.1 i (by omega)
    have := ih (i + 1) (by omega)
    rw [show p + 1 + (i + 1) = p + 1 + i + 1 by omega] at this
    exact ⟨(na_pos hR hp hl h i (by omega)).1, by omega, by rw [pz_nx_a (by omega)]; exact this⟩
theorem pl_loop {p c kk : Nat} (hL : na_L T p c) (hp : p < n) (h1 : T p ≠ 1) (hl : ls_P T n p) (hb1 : pz_nx T n p < n) (hb2 : T (pz_nx T n p) ≠ 1) (harg : ∀ i, i < c → zv_V M np nc (y_arguments i) (x_arguments i)) (hpf : y_procedureForms kk = cd_yl T n p) (hkk : kk < 801) (hb : fo ≤ co + 1 ∧ nf ≤ co) (hf : x_frame = y_next) (hf2 : fm_N nf y_next) :
    ∀ d i, i + d = c → ∀ (pl : Nat) (w ex : Int32) (xa : Nat → Int32) (xb : Nat → Int64) (xc ya : Nat → Int32) (yb : Nat → Int64) (yc : Nat → Int32),
      sm_R T n M G px py pl np nc nf fo co cn et pc (x_textLength, nI px, nI (pl + 10), x_procedureCount, x_continuationCount, x_frameCount, x_state, -1, x_form, ex, x_frame, x_value, x_applied, nI c, x_countedCount, x_consCount, x_entryCount, x_outputCount, x_itemCount, x_text, x_firsts, x_rests, xa, xb, xc, x_procedureParts, x_procedurePlaces, x_continuationFrames, x_frameTasks, x_frameForms, x_frameValues, x_framePlaces, x_frameNexts, x_arguments, x_outputs, x_itemKinds, x_itemNumbers, x_openLists) (y_size, y_pairs, y_open, y_formCount, nI pl, y_procedures, y_continuationCount, y_things, y_foundCount, nI c, y_value, y_form, y_wherein, y_next, y_working, -1000000003, y_counts, y_made, y_entered, y_printCount, y_itemCount, y_text, y_firsts, y_rests, y_heads, y_lasts, y_globals, ya, yb, yc, y_procedureForms, y_procedurePlaces, y_continuations, y_whats, y_withs, y_whereins, y_soFars, y_afters, y_found, y_foundNexts, y_arguments, y_prints, y_itemKinds, y_itemNumbers, y_pile) →
      pl + d ≤ 4 * co → en_R pl w ex →
      ∃ u' v', (∀ post : SX → Prop, post u' → wX_enterProcedure_49 post (cd_xl T n p) (d + 1) (cd_xl T n (p + 1 + i)) (nI i) x_textLength (nI px) (nI (pl + 10)) x_procedureCount x_continuationCount x_frameCount x_state (-1) x_form ex x_frame x_value x_applied (nI c) x_countedCount x_consCount x_entryCount x_outputCount x_itemCount x_text x_firsts x_rests xa xb xc x_procedureParts x_procedurePlaces x_continuationFrames x_frameTasks x_frameForms x_frameValues x_framePlaces x_frameNexts x_arguments x_outputs x_itemKinds x_itemNumbers x_openLists) ∧
        (∀ post : SY → Prop, post v' → wY_apply_55 post (nI kk) y_size y_pairs y_open y_formCount y_procedures y_continuationCount y_things y_foundCount (nI c) y_value y_form y_wherein y_next y_working (-1000000003) y_counts y_made y_entered y_printCount y_itemCount (d + 1) (cd_yl T n (p + 1 + i)) w (nI i) (nI pl) y_text y_firsts y_rests y_heads y_lasts y_globals ya yb yc y_procedureForms y_procedurePlaces y_continuations y_whats y_withs y_whereins y_soFars y_afters y_found y_foundNexts y_arguments y_prints y_itemKinds y_itemNumbers y_pile) ∧ sm_F T n co u' v' := by
  intro d
  induction d with
  | zero =>
    intro i hi pl w ex xa xb xc ya yb yc h hpl he
    have : i = c := by omega
    subst this
    have hr := h
    obtain ⟨a0, _, _, b0, c1, c2, _⟩ := hr
    have hR := a0.1
    obtain ⟨e1, e2, e3, e4, e5, e6⟩ := cd_cell c1 c2.1.2.2.2.2.2 hp h1 hl.2.2 (pz_CL_nD0 hl.2.1)
    obtain ⟨u', v', hX, hY, hF⟩ := sm_all (w := w) h rfl rfl hb he hf hf2 (ls_nx hR hl hp h1) hb1 hb2
    have hcl : (zv_c 2 (pz_AX T n 0 p)).toInt32.toNatClampNeg = pz_AX T n 0 p := zv_cl (by omega)
    have ek : (nI kk).toNatClampNeg = kk := nI_clamp (by omega)
    refine ⟨u', v', fun post hpo => ?_, fun post hpo => ?_, hF⟩
    · refine br_t (nI_le (Nat.le_refl _) (by have := hL.2.1; omega)) ?_
      rw [cd_xl_p hp h1]
      refine ⟨zv_in (by omega) (by decide), ?_⟩
      rw [hcl, e6]
      refine hX _ ?_
      obtain ⟨x_textLength, x_pairCount, x_placeCount, x_procedureCount, x_continuationCount, x_frameCount, x_state, x_ending, x_form, x_environment, x_frame, x_value, x_applied, x_argumentCount, x_countedCount, x_consCount, x_entryCount, x_outputCount, x_itemCount, x_text, x_firsts, x_rests, x_placeNames, x_placeValues, x_placeOuters, x_procedureParts, x_procedurePlaces, x_continuationFrames, x_frameTasks, x_frameForms, x_frameValues, x_framePlaces, x_frameNexts, x_arguments, x_outputs, x_itemKinds, x_itemNumbers, x_openLists⟩ := u'
      exact hpo
    · refine br_t (nI_le (Nat.le_refl _) (by have := hL.2.1; omega)) ⟨vp_in_nI hkk (by decide), ?_⟩
      rw [ek, hpf, cd_yl_p hp h1]
      refine ys_restOf (by omega) ?_
      rw [e4]
      refine hY _ ?_
      obtain ⟨y_size, y_pairs, y_open, y_formCount, y_places, y_procedures, y_continuationCount, y_things, y_foundCount, y_argumentCount, y_value, y_form, y_wherein, y_next, y_working, y_ending, y_counts, y_made, y_entered, y_printCount, y_itemCount, y_text, y_firsts, y_rests, y_heads, y_lasts, y_globals, y_placeNames, y_placeValues, y_placeNexts, y_procedureForms, y_procedurePlaces, y_continuations, y_whats, y_withs, y_whereins, y_soFars, y_afters, y_found, y_foundNexts, y_arguments, y_prints, y_itemKinds, y_itemNumbers, y_pile⟩ := v'
      exact hpo
  | succ d ih =>
    intro i hi pl w ex xa xb xc ya yb yc h hpl he
    have hr := h
    obtain ⟨a0, _, _, b0, c1, c2, _⟩ := hr
    have hR := a0.1
    have hn := hL.2.2.1 i (by omega)
    have hc4 := hL.2.1
    obtain ⟨q1, q2, q3, _⟩ := na_pos hR hp hl hL i (by omega)
    have q4 : T (p + 1 + i) ≠ 1 := by omega
    obtain ⟨e1, e2, e3, e4, e5, e6⟩ := cd_cell c1 c2.1.2.2.2.2.2 q1 q4 q2 q3
    have hnx : pz_nx T n (p + 1 + i) = p + 1 + (i + 1) := by rw [pz_nx_a (by omega)]; omega
    rw [hnx] at e4 e6
    have hxn : cd_xv T n (p + 1 + i) = zv_c 1 (T (p + 1 + i)) := by
      rw [cd_xv_a (by omega)]
      unfold zv_xA
      rw [if_neg (by omega), if_neg (by omega)]
    have hyn : cd_yv T n (p + 1 + i) = zv_c 4 (T (p + 1 + i)) := by
      rw [cd_yv_a (by omega)]
      unfold zv_yA
      rw [if_neg (by omega), if_neg (by omega)]
    rw [hxn] at e5
    rw [hyn] at e3
    have hin : vp_in (zv_c 2 (pz_AX T n 0 (p + 1 + i))).toInt32 1400 := zv_in (by omega) (by decide)
    have hcl : (zv_c 2 (pz_AX T n 0 (p + 1 + i))).toInt32.toNatClampNeg = pz_AX T n 0 (p + 1 + i) := zv_cl (by omega)
    have ei : (nI i).toNatClampNeg = i := nI_clamp (by omega)
    have ep : (nI pl).toNatClampNeg = pl := nI_clamp (by omega)
    have ep' : (nI (pl + 10)).toNatClampNeg = pl + 10 := nI_clamp (by omega)
    have hk := rk_place (k := T (p + 1 + i)) (ey := w) (ex := ex) h (by omega) hn.1 hn.2 (harg i (by omega)) he
    obtain ⟨u', v', hX, hY, hF⟩ := ih (i + 1) (by omega) (pl + 1) (nI pl) (nI (pl + 10)) _ _ _ _ _ _ (rk_ig hk) (by omega) (Or.inr ⟨pl, by omega, rfl, rfl⟩)
    have hip : vp_in (nI (pl + 10)) 2500 := vp_in_nI (by omega) (by decide)
    have hiq : vp_in (nI pl) 4000 := vp_in_nI (by omega) (by decide)
    refine ⟨u', v', fun post hpo => ?_, fun post hpo => ?_, hF⟩
    · rw [cd_xl_p q1 q4]
      refine br_f (nI_ge (by omega) (by omega)) ⟨hin, vp_in_nI (by omega) (by decide), ?_⟩
      rw [hcl, ei, e5, zv_lo 1]
      have hrec := hX post hpo
      rw [show pl + 1 + 10 = pl + 10 + 1 by omega] at hrec
      refine br_t (nI_lt (b := 2500) (by omega) (by decide)) (nm_r (nI_1 (pl + 10)) ⟨hip, nm_r (cl_I ep') ⟨hip, nm_r (cl_L ep') ⟨hip, nm_r (cl_I ep') ⟨hin, nm_r e6 (nm_r (nI_1 i) hrec)⟩⟩⟩⟩)
    · rw [cd_yl_p q1 q4]
      refine br_f (nI_ge (by omega) (by omega)) (ys_firstOf (by omega) ?_)
      rw [e3, zv_lo 4]
      refine ⟨hiq, nm_r (cl_I ep) ⟨vp_in_nI (by omega) (by decide), hiq, ?_⟩⟩
      rw [ei]
      refine nm_r (cl_L ep) ⟨hiq, nm_r (cl_I ep) (nm_r (nI_1 pl) (ys_restOf (by omega) ?_))⟩
      rw [e4]
      exact nm_r (nI_1 i) (hY post hpo)
theorem ap_proc {pl k ac : Nat} (h : sm_R T n M G px py pl np nc nf fo co cn et pc (x_textLength, x_pairCount, x_placeCount, x_procedureCount, x_continuationCount, x_frameCount, x_state, -1, x_form, x_environment, x_frame, x_value, x_applied, nI ac, x_countedCount, x_consCount, x_entryCount, x_outputCount, x_itemCount, x_text, x_firsts, x_rests, x_placeNames, x_placeValues, x_placeOuters, x_procedureParts, x_procedurePlaces, x_continuationFrames, x_frameTasks, x_frameForms, x_frameValues, x_framePlaces, x_frameNexts, x_arguments, x_outputs, x_itemKinds, x_itemNumbers, x_openLists) (y_size, y_pairs, y_open, y_formCount, y_places, y_procedures, y_continuationCount, y_things, y_foundCount, nI ac, y_value, y_form, y_wherein, y_next, y_working, -1000000003, y_counts, y_made, y_entered, y_printCount, y_itemCount, y_text, y_firsts, y_rests, y_heads, y_lasts, y_globals, y_placeNames, y_placeValues, y_placeNexts, y_procedureForms, y_procedurePlaces, y_continuations, y_whats, y_withs, y_whereins, y_soFars, y_afters, y_found, y_foundNexts, y_arguments, y_prints, y_itemKinds, y_itemNumbers, y_pile)) (hb : fo ≤ co + 1 ∧ nf ≤ co) (hpl : pl + 4 ≤ 4 * co) (hac : ac ≤ 800) (hf : x_frame = y_next) (hf2 : fm_N nf y_next) (hk : k < np) (harg : ∀ i, i < ac → zv_V M np nc (y_arguments i) (x_arguments i)) :
    ∃ u' v', (∀ post : SX → Prop, post u' → wpX_enterProcedure post (x_textLength, x_pairCount, x_placeCount, x_procedureCount, x_continuationCount, x_frameCount, x_state, -1, x_form, x_environment, x_frame, x_value, x_applied, nI ac, x_countedCount, x_consCount, x_entryCount, x_outputCount, x_itemCount, x_text, x_firsts, x_rests, x_placeNames, x_placeValues, x_placeOuters, x_procedureParts, x_procedurePlaces, x_continuationFrames, x_frameTasks, x_frameForms, x_frameValues, x_framePlaces, x_frameNexts, x_arguments, x_outputs, x_itemKinds, x_itemNumbers, x_openLists) (nI k)) ∧ (∀ post : SY → Prop, post v' → wpY_apply post (y_size, y_pairs, y_open, y_formCount, y_places, y_procedures, y_continuationCount, y_things, y_foundCount, nI ac, y_value, y_form, y_wherein, y_next, y_working, -1000000003, y_counts, y_made, y_entered, y_printCount, y_itemCount, y_text, y_firsts, y_rests, y_heads, y_lasts, y_globals, y_placeNames, y_placeValues, y_placeNexts, y_procedureForms, y_procedurePlaces, y_continuations, y_whats, y_withs, y_whereins, y_soFars, y_afters, y_found, y_foundNexts, y_arguments, y_prints, y_itemKinds, y_itemNumbers, y_pile) (zv_c 5 k)) ∧ sm_to T n co u' v' := by
  have hr := h
  obtain ⟨a0, ⟨n1, n2, n3, n4, n5, n6, n7, n8, n9, n10, n11⟩, ⟨m1, m2, m3, m4, m5, m6, m7, m8, m9, m10, m11⟩, b0, c1, c2, c3, c4, c5, c6, c7, c8⟩ := hr
  obtain ⟨g1, p, c, g2, g3, g4, g5, g6, g7, g8⟩ := c6 k hk
  have hR := a0.1
  have hbb := c2.1.2.2.2.2.2
  have h1 : T p ≠ 1 := by have := g6.1; omega
  have hc4 := g6.2.1
  obtain ⟨e1, e2, e3, e4, e5, e6⟩ := cd_cell c1 hbb g3 h1 g2.2.2 (pz_CL_nD0 g2.2.1)
  rw [cd_yv_0 g6.1] at e3
  rw [cd_xv_0 g6.1] at e5
  obtain ⟨d1, d2, d3, _⟩ := cd_in hR g3 g6.1 (ls_CF g2)
  have hLn := na_len hR g3 g2 g6 c 0 (by omega)
  rw [Nat.add_zero] at hLn
  have hchX := cd_chX hR c1 hbb c (p + 1) hLn d2 d3
  have hchY := cd_chY hR c1 hbb c (p + 1) hLn d2 d3
  have ek : (nI k).toNatClampNeg = k := nI_clamp (by omega)
  have hik : vp_in (nI k) 700 := vp_in_nI (by omega) (by decide)
  have hik' : vp_in (zv_c 5 k).toInt32 801 := zv_in (by omega) (by decide)
  have ek' : (zv_c 5 k).toInt32.toNatClampNeg = k := zv_cl (by omega)
  have hcl : (zv_c 2 (pz_AX T n 0 p)).toInt32.toNatClampNeg = pz_AX T n 0 p := zv_cl (by omega)
  have g5' := g5
  have g4' := g4
  rw [cd_xl_p g3 h1] at g5'
  rw [cd_yl_p g3 h1] at g4'
  subst n2 n3 m3
  by_cases hca : c = ac
  · subst hca
    obtain ⟨u', v', hX, hY, hF⟩ := pl_loop (kk := k) g6 g3 h1 g2 g7 g8 harg g4 (by omega) hb hf hf2 c 0 (by omega) pl (y_procedurePlaces k) (x_procedurePlaces k) _ _ _ _ _ _ (rk_ig h) (by omega) g1
    rw [Nat.add_zero] at hX hY
    refine ⟨u', v', fun post hp => ?_, fun post hp => ?_, Or.inr (Or.inl hF)⟩
    · refine ⟨hik, nm_r ((cl_R ek).trans g5') ⟨zv_in (by omega) (by decide), nm_r ((cl_R hcl).trans e5) (xs_len_ch (by omega) hchX (br_t rfl ⟨hik, nm_r (cl_R ek) ⟨c + 1, ?_⟩⟩))⟩⟩
      rw [← cd_xl_p g3 h1]
      exact hX post hp
    · unfold wpY_apply
      refine ys_tag (by decide) (by omega) (br_t rfl ⟨hik', ?_⟩)
      rw [ek', g4']
      refine ys_firstOf (by omega) ?_
      rw [e3]
      refine ys_len_ch (by omega) hchY (br_t rfl ⟨hik', nm_r rfl ⟨c + 1, ?_⟩⟩)
      rw [zv_lo]
      exact hY post hp
  · have hE := sm_E_R (e := 6) h (by decide) (by decide)
    refine ⟨_, _, fun post hp => ?_, fun post hp => ?_, Or.inl hE⟩
    · exact ⟨hik, nm_r ((cl_R ek).trans g5') ⟨zv_in (by omega) (by decide), nm_r ((cl_R hcl).trans e5) (xs_len_ch (by omega) hchX (br_f (ne_I hca (by omega) (by omega)) hp))⟩⟩
    · unfold wpY_apply
      refine ys_tag (by decide) (by omega) (br_t rfl ⟨hik', ?_⟩)
      rw [ek', g4']
      refine ys_firstOf (by omega) ?_
      rw [e3]
      exact ys_len_ch (by omega) hchY (br_f (ne_I hca (by omega) (by omega)) hp)
end
end
section
/-! built-in procedures by their number; continuations; callcc and apply hand over -/
section
variable {x_textLength : Int32} {x_pairCount : Int32} {x_placeCount : Int32} {x_procedureCount : Int32} {x_continuationCount : Int32} {x_frameCount : Int32} {x_state : Int32} {x_ending : Int32} {x_form : Int64} {x_environment : Int32} {x_frame : Int32} {x_value : Int64} {x_applied : Int64} {x_argumentCount : Int32} {x_countedCount : Int32} {x_consCount : Int32} {x_entryCount : Int32} {x_outputCount : Int32} {x_itemCount : Int32} {x_text : Nat → Int32} {x_firsts : Nat → Int64} {x_rests : Nat → Int64} {x_placeNames : Nat → Int32} {x_placeValues : Nat → Int64} {x_placeOuters : Nat → Int32} {x_procedureParts : Nat → Int64} {x_procedurePlaces : Nat → Int32} {x_continuationFrames : Nat → Int32} {x_frameTasks : Nat → Int32} {x_frameForms : Nat → Int64} {x_frameValues : Nat → Int64} {x_framePlaces : Nat → Int32} {x_frameNexts : Nat → Int32} {x_arguments : Nat → Int64} {x_outputs : Nat → Int32} {x_itemKinds : Nat → Int32} {x_itemNumbers : Nat → Int32} {x_openLists : Nat → Int64}
variable {y_size : Int32} {y_pairs : Int32} {y_open : Int32} {y_formCount : Int32} {y_places : Int32} {y_procedures : Int32} {y_continuationCount : Int32} {y_things : Int32} {y_foundCount : Int32} {y_argumentCount : Int32} {y_value : Int64} {y_form : Int64} {y_wherein : Int32} {y_next : Int32} {y_working : Int32} {y_ending : Int32} {y_counts : Int32} {y_made : Int32} {y_entered : Int32} {y_printCount : Int32} {y_itemCount : Int32} {y_text : Nat → Int32} {y_firsts : Nat → Int64} {y_rests : Nat → Int64} {y_heads : Nat → Int32} {y_lasts : Nat → Int32} {y_globals : Nat → Int64} {y_placeNames : Nat → Int32} {y_placeValues : Nat → Int64} {y_placeNexts : Nat → Int32} {y_procedureForms : Nat → Int64} {y_procedurePlaces : Nat → Int32} {y_continuations : Nat → Int32} {y_whats : Nat → Int32} {y_withs : Nat → Int64} {y_whereins : Nat → Int32} {y_soFars : Nat → Int32} {y_afters : Nat → Int32} {y_found : Nat → Int64} {y_foundNexts : Nat → Int32} {y_arguments : Nat → Int64} {y_prints : Nat → Int32} {y_itemKinds : Nat → Int32} {y_itemNumbers : Nat → Int32} {y_pile : Nat → Int64}
variable {T : Nat → Nat} {n px py pl np nc nf fo co cn et pc : Nat} {M : Nat → Nat → Prop} {G : Nat → Nat}
def bi_n (k : Nat) : Nat := if (51 ≤ k ∧ k ≤ 54) ∨ k = 62 ∨ k = 63 then 1 else 2
theorem xb_go {post : SX → Prop} {k ac : Nat} (h1 : 50 ≤ k) (h2 : k ≤ 64) (hp : wX_applyBuiltIn_43 post (nI k) (nI (bi_n k)) (nI ac) x_textLength x_pairCount x_placeCount x_procedureCount x_continuationCount x_frameCount x_state x_ending x_form x_environment x_frame x_value x_applied (nI ac) x_countedCount x_consCount x_entryCount x_outputCount x_itemCount x_text x_firsts x_rests x_placeNames x_placeValues x_placeOuters x_procedureParts x_procedurePlaces x_continuationFrames x_frameTasks x_frameForms x_frameValues x_framePlaces x_frameNexts x_arguments x_outputs x_itemKinds x_itemNumbers x_openLists) : wpX_applyBuiltIn post (x_textLength, x_pairCount, x_placeCount, x_procedureCount, x_continuationCount, x_frameCount, x_state, x_ending, x_form, x_environment, x_frame, x_value, x_applied, nI ac, x_countedCount, x_consCount, x_entryCount, x_outputCount, x_itemCount, x_text, x_firsts, x_rests, x_placeNames, x_placeValues, x_placeOuters, x_procedureParts, x_procedurePlaces, x_continuationFrames, x_frameTasks, x_frameForms, x_frameValues, x_framePlaces, x_frameNexts, x_arguments, x_outputs, x_itemKinds, x_itemNumbers, x_openLists) (nI k) := by
  unfold bi_n at hp
  by_cases c1 : k < 51
  · rw [if_neg (by omega)] at hp
    exact br_t (nI_lt (b := 51) c1 (by decide)) (br_f (ne_I (b := 62) (by omega) (by omega) (by decide)) (br_f (ne_I (b := 63) (by omega) (by omega) (by decide)) (br_t rfl hp)))
  · refine br_f (nI_nlt (b := 51) (by omega) (by omega)) ?_
    by_cases c2 : k ≤ 54
    · rw [if_pos (by omega)] at hp
      exact br_t (nI_le (b := 54) c2 (by decide)) (br_f (by decide) hp)
    · refine br_f (nI_ge (a := 54) (by omega) (by omega)) ?_
      by_cases c3 : k = 62
      · rw [if_pos (by omega)] at hp
        exact br_t (by rw [c3]; rfl) (br_f (by decide) hp)
      · refine br_f (ne_I (b := 62) c3 (by omega) (by decide)) ?_
        by_cases c4 : k = 63
        · rw [if_pos (by omega)] at hp
          exact br_t (by rw [c4]; rfl) (br_f (by decide) hp)
        · rw [if_neg (by omega)] at hp
          exact br_f (ne_I (b := 63) c4 (by omega) (by decide)) (br_t rfl hp)
theorem yb_go {post : SY → Prop} {k ac : Nat} (h1 : 50 ≤ k) (h2 : k ≤ 62) (hac : ac ≤ 800) (hp : ac = bi_n k → wpY_applyBuiltIn (fun u => match u with | (y_size, y_pairs, y_open, y_formCount, y_places, y_procedures, y_continuationCount, y_things, y_foundCount, y_argumentCount, y_value, y_form, y_wherein, y_next, y_working, y_ending, y_counts, y_made, y_entered, y_printCount, y_itemCount, y_text, y_firsts, y_rests, y_heads, y_lasts, y_globals, y_placeNames, y_placeValues, y_placeNexts, y_procedureForms, y_procedurePlaces, y_continuations, y_whats, y_withs, y_whereins, y_soFars, y_afters, y_found, y_foundNexts, y_arguments, y_prints, y_itemKinds, y_itemNumbers, y_pile) => post (y_size, y_pairs, y_open, y_formCount, y_places, y_procedures, y_continuationCount, y_things, y_foundCount, y_argumentCount, y_value, y_form, y_wherein, y_next, y_working, y_ending, y_counts, y_made, y_entered, y_printCount, y_itemCount, y_text, y_firsts, y_rests, y_heads, y_lasts, y_globals, y_placeNames, y_placeValues, y_placeNexts, y_procedureForms, y_procedurePlaces, y_continuations, y_whats, y_withs, y_whereins, y_soFars, y_afters, y_found, y_foundNexts, y_arguments, y_prints, y_itemKinds, y_itemNumbers, y_pile)) (y_size, y_pairs, y_open, y_formCount, y_places, y_procedures, y_continuationCount, y_things, y_foundCount, nI ac, y_value, y_form, y_wherein, y_next, y_working, -1000000003, y_counts, y_made, y_entered, y_printCount, y_itemCount, y_text, y_firsts, y_rests, y_heads, y_lasts, y_globals, y_placeNames, y_placeValues, y_placeNexts, y_procedureForms, y_procedurePlaces, y_continuations, y_whats, y_withs, y_whereins, y_soFars, y_afters, y_found, y_foundNexts, y_arguments, y_prints, y_itemKinds, y_itemNumbers, y_pile) (nI k) (y_arguments 0) (y_arguments 1)) (hq : ac ≠ bi_n k → post (y_size, y_pairs, y_open, y_formCount, y_places, y_procedures, y_continuationCount, y_things, y_foundCount, nI ac, y_value, y_form, y_wherein, y_next, y_working, 6, y_counts, y_made, y_entered, y_printCount, y_itemCount, y_text, y_firsts, y_rests, y_heads, y_lasts, y_globals, y_placeNames, y_placeValues, y_placeNexts, y_procedureForms, y_procedurePlaces, y_continuations, y_whats, y_withs, y_whereins, y_soFars, y_afters, y_found, y_foundNexts, y_arguments, y_prints, y_itemKinds, y_itemNumbers, y_pile)) : wpY_apply post (y_size, y_pairs, y_open, y_formCount, y_places, y_procedures, y_continuationCount, y_things, y_foundCount, nI ac, y_value, y_form, y_wherein, y_next, y_working, -1000000003, y_counts, y_made, y_entered, y_printCount, y_itemCount, y_text, y_firsts, y_rests, y_heads, y_lasts, y_globals, y_placeNames, y_placeValues, y_placeNexts, y_procedureForms, y_procedurePlaces, y_continuations, y_whats, y_withs, y_whereins, y_soFars, y_afters, y_found, y_foundNexts, y_arguments, y_prints, y_itemKinds, y_itemNumbers, y_pile) (zv_c 6 k) := by
  have key : ∀ d, bi_n k = d → d < 3 → wY_apply_189 post (nI k) (nI d) y_size y_pairs y_open y_formCount y_places y_procedures y_continuationCount y_things y_foundCount (nI ac) y_value y_form y_wherein y_next y_working (-1000000003) y_counts y_made y_entered y_printCount y_itemCount y_text y_firsts y_rests y_heads y_lasts y_globals y_placeNames y_placeValues y_placeNexts y_procedureForms y_procedurePlaces y_continuations y_whats y_withs y_whereins y_soFars y_afters y_found y_foundNexts y_arguments y_prints y_itemKinds y_itemNumbers y_pile := by
    intro d hd hd3
    rw [hd] at hp hq
    by_cases c : ac = d
    · exact br_t (by rw [c]) (br_t rfl (hp c))
    · exact br_f (ne_I c (by omega) (by omega)) (br_f (by decide) (hq c))
  unfold wpY_apply
  refine ys_tag (by decide) (by omega) (br_f (by decide) (ys_tag (by decide) (by omega) (br_t rfl ?_)))
  rw [zv_lo]
  by_cases c1 : k = 50
  · exact br_t (by rw [c1]; rfl) (key 2 (by unfold bi_n; rw [if_neg (by omega)]) (by decide))
  · refine br_f (ne_I (b := 50) c1 (by omega) (by decide)) ?_
    by_cases c2 : k ≤ 54
    · exact br_t (nI_le (b := 54) c2 (by decide)) (key 1 (by unfold bi_n; rw [if_pos (by omega)]) (by decide))
    · refine br_f (nI_ge (a := 54) (by omega) (by omega)) ?_
      by_cases c3 : k = 62
      · exact br_t (by rw [c3]; decide) (key 1 (by unfold bi_n; rw [if_pos (by omega)]) (by decide))
      · exact br_f (nI_ge (b := 62) (by omega) (by decide)) (key 2 (by unfold bi_n; rw [if_neg (by omega)]) (by decide))
theorem ap_built {k ac : Nat} (h : sm_R T n M G px py pl np nc nf fo co cn et pc (x_textLength, x_pairCount, x_placeCount, x_procedureCount, x_continuationCount, x_frameCount, x_state, -1, x_form, x_environment, x_frame, x_value, x_applied, nI ac, x_countedCount, x_consCount, x_entryCount, x_outputCount, x_itemCount, x_text, x_firsts, x_rests, x_placeNames, x_placeValues, x_placeOuters, x_procedureParts, x_procedurePlaces, x_continuationFrames, x_frameTasks, x_frameForms, x_frameValues, x_framePlaces, x_frameNexts, x_arguments, x_outputs, x_itemKinds, x_itemNumbers, x_openLists) (y_size, y_pairs, y_open, y_formCount, y_places, y_procedures, y_continuationCount, y_things, y_foundCount, nI ac, y_value, y_form, y_wherein, y_next, y_working, -1000000003, y_counts, y_made, y_entered, y_printCount, y_itemCount, y_text, y_firsts, y_rests, y_heads, y_lasts, y_globals, y_placeNames, y_placeValues, y_placeNexts, y_procedureForms, y_procedurePlaces, y_continuations, y_whats, y_withs, y_whereins, y_soFars, y_afters, y_found, y_foundNexts, y_arguments, y_prints, y_itemKinds, y_itemNumbers, y_pile)) (hb : fo ≤ co ∧ nf ≤ co) (hc : cn + 1 ≤ co) (hac : ac ≤ 800) (hf : x_frame = y_next) (hf2 : fm_N nf y_next) (h1 : 50 ≤ k) (h2 : k ≤ 62) (harg : ∀ i, i < ac → zv_V M np nc (y_arguments i) (x_arguments i)) :
    ∃ u' v', (∀ post : SX → Prop, post u' → wpX_applyBuiltIn post (x_textLength, x_pairCount, x_placeCount, x_procedureCount, x_continuationCount, x_frameCount, x_state, -1, x_form, x_environment, x_frame, x_value, x_applied, nI ac, x_countedCount, x_consCount, x_entryCount, x_outputCount, x_itemCount, x_text, x_firsts, x_rests, x_placeNames, x_placeValues, x_placeOuters, x_procedureParts, x_procedurePlaces, x_continuationFrames, x_frameTasks, x_frameForms, x_frameValues, x_framePlaces, x_frameNexts, x_arguments, x_outputs, x_itemKinds, x_itemNumbers, x_openLists) (nI k)) ∧ (∀ post : SY → Prop, post v' → wpY_apply post (y_size, y_pairs, y_open, y_formCount, y_places, y_procedures, y_continuationCount, y_things, y_foundCount, nI ac, y_value, y_form, y_wherein, y_next, y_working, -1000000003, y_counts, y_made, y_entered, y_printCount, y_itemCount, y_text, y_firsts, y_rests, y_heads, y_lasts, y_globals, y_placeNames, y_placeValues, y_placeNexts, y_procedureForms, y_procedurePlaces, y_continuations, y_whats, y_withs, y_whereins, y_soFars, y_afters, y_found, y_foundNexts, y_arguments, y_prints, y_itemKinds, y_itemNumbers, y_pile) (zv_c 6 k)) ∧ sm_to T n co u' v' := by
  by_cases hn : ac = bi_n k
  · have fin : (∃ u' v', (∀ post : SX → Prop, post u' → wX_applyBuiltIn_43 post (nI k) (nI (bi_n k)) (nI (bi_n k)) x_textLength x_pairCount x_placeCount x_procedureCount x_continuationCount x_frameCount x_state (-1) x_form x_environment x_frame x_value x_applied (nI ac) x_countedCount x_consCount x_entryCount x_outputCount x_itemCount x_text x_firsts x_rests x_placeNames x_placeValues x_placeOuters x_procedureParts x_procedurePlaces x_continuationFrames x_frameTasks x_frameForms x_frameValues x_framePlaces x_frameNexts x_arguments x_outputs x_itemKinds x_itemNumbers x_openLists) ∧ (∀ post : SY → Prop, post v' → wpY_applyBuiltIn post (y_size, y_pairs, y_open, y_formCount, y_places, y_procedures, y_continuationCount, y_things, y_foundCount, nI ac, y_value, y_form, y_wherein, y_next, y_working, -1000000003, y_counts, y_made, y_entered, y_printCount, y_itemCount, y_text, y_firsts, y_rests, y_heads, y_lasts, y_globals, y_placeNames, y_placeValues, y_placeNexts, y_procedureForms, y_procedurePlaces, y_continuations, y_whats, y_withs, y_whereins, y_soFars, y_afters, y_found, y_foundNexts, y_arguments, y_prints, y_itemKinds, y_itemNumbers, y_pile) (nI k) (y_arguments 0) (y_arguments 1)) ∧ sm_to T n co u' v') →
        ∃ u' v', (∀ post : SX → Prop, post u' → wpX_applyBuiltIn post (x_textLength, x_pairCount, x_placeCount, x_procedureCount, x_continuationCount, x_frameCount, x_state, -1, x_form, x_environment, x_frame, x_value, x_applied, nI ac, x_countedCount, x_consCount, x_entryCount, x_outputCount, x_itemCount, x_text, x_firsts, x_rests, x_placeNames, x_placeValues, x_placeOuters, x_procedureParts, x_procedurePlaces, x_continuationFrames, x_frameTasks, x_frameForms, x_frameValues, x_framePlaces, x_frameNexts, x_arguments, x_outputs, x_itemKinds, x_itemNumbers, x_openLists) (nI k)) ∧ (∀ post : SY → Prop, post v' → wpY_apply post (y_size, y_pairs, y_open, y_formCount, y_places, y_procedures, y_continuationCount, y_things, y_foundCount, nI ac, y_value, y_form, y_wherein, y_next, y_working, -1000000003, y_counts, y_made, y_entered, y_printCount, y_itemCount, y_text, y_firsts, y_rests, y_heads, y_lasts, y_globals, y_placeNames, y_placeValues, y_placeNexts, y_procedureForms, y_procedurePlaces, y_continuations, y_whats, y_withs, y_whereins, y_soFars, y_afters, y_found, y_foundNexts, y_arguments, y_prints, y_itemKinds, y_itemNumbers, y_pile) (zv_c 6 k)) ∧ sm_to T n co u' v' := by
      intro ⟨u', v', hX, hY, ht⟩
      refine ⟨u', v', fun post hp => xb_go h1 (by omega) ?_, fun post hp => yb_go h1 h2 hac (fun _ => hY _ ?_) (fun z => absurd hn z), ht⟩
      · have := hX post hp
        rw [hn]
        rw [hn] at this
        exact this
      · obtain ⟨y_size, y_pairs, y_open, y_formCount, y_places, y_procedures, y_continuationCount, y_things, y_foundCount, y_argumentCount, y_value, y_form, y_wherein, y_next, y_working, y_ending, y_counts, y_made, y_entered, y_printCount, y_itemCount, y_text, y_firsts, y_rests, y_heads, y_lasts, y_globals, y_placeNames, y_placeValues, y_placeNexts, y_procedureForms, y_procedurePlaces, y_continuations, y_whats, y_withs, y_whereins, y_soFars, y_afters, y_found, y_foundNexts, y_arguments, y_prints, y_itemKinds, y_itemNumbers, y_pile⟩ := v'
        exact hp
    apply fin
    have hk : k = 50 ∨ (k = 53 ∨ k = 54) ∨ k = 55 ∨ (k = 51 ∨ k = 52 ∨ k = 60 ∨ k = 61) ∨ (56 ≤ k ∧ k ≤ 59) ∨ k = 62 := by omega
    rcases hk with rfl | hk | rfl | hk | hk | rfl
    · exact bi_cons h hb hc hf hf2 (harg 0 (by rw [hn]; decide)) (harg 1 (by rw [hn]; decide))
    · have e : bi_n k = 1 := by unfold bi_n; rw [if_pos (by omega)]
      rw [e]
      exact bi_pred h hb hf hf2 hk (harg 0 (by omega))
    · exact bi_same h hb hf hf2 (harg 0 (by rw [hn]; decide)) (harg 1 (by rw [hn]; decide))
    · rcases hk with rfl | rfl | rfl | rfl
      · exact bi_pair (z := 1) h hb hf hf2 (Or.inl ⟨rfl, rfl⟩) (harg 0 (by rw [hn]; decide)) (fun z => by omega)
      · exact bi_pair (z := 1) h hb hf hf2 (Or.inr (Or.inl ⟨rfl, rfl⟩)) (harg 0 (by rw [hn]; decide)) (fun z => by omega)
      · exact bi_pair (z := 2) h hb hf hf2 (Or.inr (Or.inr (Or.inl ⟨rfl, rfl⟩))) (harg 0 (by rw [hn]; decide)) (fun z => harg 1 (by rw [hn]; decide))
      · exact bi_pair (z := 2) h hb hf hf2 (Or.inr (Or.inr (Or.inr ⟨rfl, rfl⟩))) (harg 0 (by rw [hn]; decide)) (fun z => harg 1 (by rw [hn]; decide))
    · have e : bi_n k = 2 := by unfold bi_n; rw [if_neg (by omega)]
      rw [e]
      exact bi_calc h hb hf hf2 hk.1 hk.2 (harg 0 (by omega)) (harg 1 (by omega))
    · exact bi_print h hb hf hf2 (harg 0 (by rw [hn]; decide))
  · have hE := sm_E_R (e := 6) h (by decide) (by decide)
    have hb3 : bi_n k < 3 := by unfold bi_n; split <;> omega
    exact ⟨_, _, fun post hp => xb_go h1 (by omega) (br_f (ne_I hn (by omega) (by omega)) hp), fun post hp => yb_go h1 h2 hac (fun z => absurd z hn) (fun _ => hp), Or.inl hE⟩
theorem ap_cont {k ac : Nat} (h : sm_R T n M G px py pl np nc nf fo co cn et pc (x_textLength, x_pairCount, x_placeCount, x_procedureCount, x_continuationCount, x_frameCount, x_state, -1, x_form, x_environment, x_frame, x_value, x_applied, nI ac, x_countedCount, x_consCount, x_entryCount, x_outputCount, x_itemCount, x_text, x_firsts, x_rests, x_placeNames, x_placeValues, x_placeOuters, x_procedureParts, x_procedurePlaces, x_continuationFrames, x_frameTasks, x_frameForms, x_frameValues, x_framePlaces, x_frameNexts, x_arguments, x_outputs, x_itemKinds, x_itemNumbers, x_openLists) (y_size, y_pairs, y_open, y_formCount, y_places, y_procedures, y_continuationCount, y_things, y_foundCount, nI ac, y_value, y_form, y_wherein, y_next, y_working, -1000000003, y_counts, y_made, y_entered, y_printCount, y_itemCount, y_text, y_firsts, y_rests, y_heads, y_lasts, y_globals, y_placeNames, y_placeValues, y_placeNexts, y_procedureForms, y_procedurePlaces, y_continuations, y_whats, y_withs, y_whereins, y_soFars, y_afters, y_found, y_foundNexts, y_arguments, y_prints, y_itemKinds, y_itemNumbers, y_pile)) (hb : fo ≤ co ∧ nf ≤ co) (hac : ac ≤ 800) (hk : k < nc) (harg : ∀ i, i < ac → zv_V M np nc (y_arguments i) (x_arguments i)) :
    ∃ u' v', (∀ post : SX → Prop, post u' → wpX_enterContinuation post (x_textLength, x_pairCount, x_placeCount, x_procedureCount, x_continuationCount, x_frameCount, x_state, -1, x_form, x_environment, x_frame, x_value, x_applied, nI ac, x_countedCount, x_consCount, x_entryCount, x_outputCount, x_itemCount, x_text, x_firsts, x_rests, x_placeNames, x_placeValues, x_placeOuters, x_procedureParts, x_procedurePlaces, x_continuationFrames, x_frameTasks, x_frameForms, x_frameValues, x_framePlaces, x_frameNexts, x_arguments, x_outputs, x_itemKinds, x_itemNumbers, x_openLists) (nI k)) ∧ (∀ post : SY → Prop, post v' → wpY_apply post (y_size, y_pairs, y_open, y_formCount, y_places, y_procedures, y_continuationCount, y_things, y_foundCount, nI ac, y_value, y_form, y_wherein, y_next, y_working, -1000000003, y_counts, y_made, y_entered, y_printCount, y_itemCount, y_text, y_firsts, y_rests, y_heads, y_lasts, y_globals, y_placeNames, y_placeValues, y_placeNexts, y_procedureForms, y_procedurePlaces, y_continuations, y_whats, y_withs, y_whereins, y_soFars, y_afters, y_found, y_foundNexts, y_arguments, y_prints, y_itemKinds, y_itemNumbers, y_pile) (zv_c 7 k)) ∧ sm_to T n co u' v' := by
  have hr := h
  obtain ⟨a0, ⟨n1, n2, n3, n4, n5, n6, n7, n8, n9, n10, n11⟩, ⟨m1, m2, m3, m4, m5, m6, m7, m8, m9, m10, m11⟩, b0, c1, c2, c3, c4, c5, c6, c7, c8⟩ := hr
  obtain ⟨g1, g2⟩ := c7 k hk
  have ek : (nI k).toNatClampNeg = k := nI_clamp (by omega)
  have hik : vp_in (nI k) 700 := vp_in_nI (by omega) (by decide)
  have hik' : vp_in (zv_c 7 k).toInt32 801 := zv_in (by omega) (by decide)
  have ek' : (zv_c 7 k).toInt32.toNatClampNeg = k := zv_cl (by omega)
  subst n9 m10
  by_cases c : ac = 1
  · subst c
    have hk2 := rk_entry h
    have ht := sm_toV (show sm_R T n M G px py pl np nc nf fo co cn (et + 1) pc (x_textLength, x_pairCount, x_placeCount, x_procedureCount, x_continuationCount, x_frameCount, x_state, -1, x_form, x_environment, x_continuationFrames k, x_value, x_applied, nI 1, x_countedCount, x_consCount, nI (et + 1), x_outputCount, x_itemCount, x_text, x_firsts, x_rests, x_placeNames, x_placeValues, x_placeOuters, x_procedureParts, x_procedurePlaces, x_continuationFrames, x_frameTasks, x_frameForms, x_frameValues, x_framePlaces, x_frameNexts, x_arguments, x_outputs, x_itemKinds, x_itemNumbers, x_openLists) (y_size, y_pairs, y_open, y_formCount, y_places, y_procedures, y_continuationCount, y_things, y_foundCount, nI 1, y_value, y_form, y_wherein, y_continuations k, y_working, -1000000003, y_counts, y_made, nI (et + 1), y_printCount, y_itemCount, y_text, y_firsts, y_rests, y_heads, y_lasts, y_globals, y_placeNames, y_placeValues, y_placeNexts, y_procedureForms, y_procedurePlaces, y_continuations, y_whats, y_withs, y_whereins, y_soFars, y_afters, y_found, y_foundNexts, y_arguments, y_prints, y_itemKinds, y_itemNumbers, y_pile) from rk_ig hk2) hb rfl rfl (harg 0 (by decide)) g1 g2
    refine ⟨_, _, fun post hp => ?_, fun post hp => ?_, ht⟩
    · exact br_t rfl (nm_r (nI_1 et) ⟨hik, nm_r (cl_R ek) hp⟩)
    · unfold wpY_apply
      refine ys_tag (by decide) (by omega) (br_f (by decide) (ys_tag (by decide) (by omega) (br_f (by decide) (ys_tag (by decide) (by omega) (br_t rfl (br_t rfl (br_t rfl ?_)))))))
      rw [nI_1]
      exact ⟨hik', nm_r (cl_R ek') hp⟩
  · have hE := sm_Eg (e := 6) (q1 := x_state) (q3 := x_form) (q4 := x_environment) (q5 := x_frame) (q6 := x_value) (q7 := x_applied) (q8 := nI ac) (q9 := x_arguments) (r3 := nI ac) (r4 := y_arguments 0) (r5 := y_form) (r6 := y_wherein) (r7 := y_continuations k) (r8 := 0) (r13 := y_arguments) (r17 := y_globals) h (by decide) (by decide)
    refine ⟨_, _, fun post hp => ?_, fun post hp => ?_, Or.inl hE⟩
    · exact br_f (ne_I (b := 1) c (by omega) (by decide)) hp
    · unfold wpY_apply
      have hne := ne_I (b := 1) c (by omega) (by decide)
      exact ys_tag (by decide) (by omega) (br_f (by decide) (ys_tag (by decide) (by omega) (br_f (by decide) (ys_tag (by decide) (by omega) (br_t rfl (br_f hne (br_f hne ⟨hik', nm_r (cl_R ek') hp⟩)))))))
end
end
section
/-! something is applied: callcc and apply hand over; all cases -/
section
variable {x_textLength : Int32} {x_pairCount : Int32} {x_placeCount : Int32} {x_procedureCount : Int32} {x_continuationCount : Int32} {x_frameCount : Int32} {x_state : Int32} {x_ending : Int32} {x_form : Int64} {x_environment : Int32} {x_frame : Int32} {x_value : Int64} {x_applied : Int64} {x_argumentCount : Int32} {x_countedCount : Int32} {x_consCount : Int32} {x_entryCount : Int32} {x_outputCount : Int32} {x_itemCount : Int32} {x_text : Nat → Int32} {x_firsts : Nat → Int64} {x_rests : Nat → Int64} {x_placeNames : Nat → Int32} {x_placeValues : Nat → Int64} {x_placeOuters : Nat → Int32} {x_procedureParts : Nat → Int64} {x_procedurePlaces : Nat → Int32} {x_continuationFrames : Nat → Int32} {x_frameTasks : Nat → Int32} {x_frameForms : Nat → Int64} {x_frameValues : Nat → Int64} {x_framePlaces : Nat → Int32} {x_frameNexts : Nat → Int32} {x_arguments : Nat → Int64} {x_outputs : Nat → Int32} {x_itemKinds : Nat → Int32} {x_itemNumbers : Nat → Int32} {x_openLists : Nat → Int64}
variable {y_size : Int32} {y_pairs : Int32} {y_open : Int32} {y_formCount : Int32} {y_places : Int32} {y_procedures : Int32} {y_continuationCount : Int32} {y_things : Int32} {y_foundCount : Int32} {y_argumentCount : Int32} {y_value : Int64} {y_form : Int64} {y_wherein : Int32} {y_next : Int32} {y_working : Int32} {y_ending : Int32} {y_counts : Int32} {y_made : Int32} {y_entered : Int32} {y_printCount : Int32} {y_itemCount : Int32} {y_text : Nat → Int32} {y_firsts : Nat → Int64} {y_rests : Nat → Int64} {y_heads : Nat → Int32} {y_lasts : Nat → Int32} {y_globals : Nat → Int64} {y_placeNames : Nat → Int32} {y_placeValues : Nat → Int64} {y_placeNexts : Nat → Int32} {y_procedureForms : Nat → Int64} {y_procedurePlaces : Nat → Int32} {y_continuations : Nat → Int32} {y_whats : Nat → Int32} {y_withs : Nat → Int64} {y_whereins : Nat → Int32} {y_soFars : Nat → Int32} {y_afters : Nat → Int32} {y_found : Nat → Int64} {y_foundNexts : Nat → Int32} {y_arguments : Nat → Int64} {y_prints : Nat → Int32} {y_itemKinds : Nat → Int32} {y_itemNumbers : Nat → Int32} {y_pile : Nat → Int64}
variable {T : Nat → Nat} {n px py pl np nc nf fo co cn et pc : Nat} {M : Nat → Nat → Prop} {G : Nat → Nat}
theorem ya_app {v' : SY} {t a : Nat} (hc : co < 600) (ht : t < 16) (ha : a < 4294967296) (hnot : ¬ (t = 6 ∧ (a = 63 ∨ a = 64))) (hs : t = 6 → a < 100)
    (hA : ∀ q : SY → Prop, q v' → wpY_apply q (y_size, y_pairs, y_open, y_formCount, y_places, y_procedures, y_continuationCount, y_things, y_foundCount, y_argumentCount, y_value, y_form, y_wherein, y_next, y_working, -1000000003, nI (co + 1), y_made, y_entered, y_printCount, y_itemCount, y_text, y_firsts, y_rests, y_heads, y_lasts, y_globals, y_placeNames, y_placeValues, y_placeNexts, y_procedureForms, y_procedurePlaces, y_continuations, y_whats, y_withs, y_whereins, y_soFars, y_afters, y_found, y_foundNexts, y_arguments, y_prints, y_itemKinds, y_itemNumbers, y_pile) (zv_c t a)) : ∀ (post : SY → Prop) (F : Nat), post v' → wY_applyFound_86 post (F + 2) (zv_c t a) 1 y_size y_pairs y_open y_formCount y_places y_procedures y_continuationCount y_things y_foundCount y_argumentCount y_value y_form y_wherein y_next y_working (-1000000003) (nI co) y_made y_entered y_printCount y_itemCount y_text y_firsts y_rests y_heads y_lasts y_globals y_placeNames y_placeValues y_placeNexts y_procedureForms y_procedurePlaces y_continuations y_whats y_withs y_whereins y_soFars y_afters y_found y_foundNexts y_arguments y_prints y_itemKinds y_itemNumbers y_pile := by
  intro post F hp
  have h126 : wY_applyFound_126 post (wY_applyFound_86 post (F + 1)) (zv_c t a) y_size y_pairs y_open y_formCount y_places y_procedures y_continuationCount y_things y_foundCount y_argumentCount y_value y_form y_wherein y_next y_working (-1000000003) (nI (co + 1)) y_made y_entered y_printCount y_itemCount y_text y_firsts y_rests y_heads y_lasts y_globals y_placeNames y_placeValues y_placeNexts y_procedureForms y_procedurePlaces y_continuations y_whats y_withs y_whereins y_soFars y_afters y_found y_foundNexts y_arguments y_prints y_itemKinds y_itemNumbers y_pile := by
    refine br_t rfl (br_t rfl (br_t rfl (br_t rfl (hA _ ?_))))
    obtain ⟨y_size, y_pairs, y_open, y_formCount, y_places, y_procedures, y_continuationCount, y_things, y_foundCount, y_argumentCount, y_value, y_form, y_wherein, y_next, y_working, y_ending, y_counts, y_made, y_entered, y_printCount, y_itemCount, y_text, y_firsts, y_rests, y_heads, y_lasts, y_globals, y_placeNames, y_placeValues, y_placeNexts, y_procedureForms, y_procedurePlaces, y_continuations, y_whats, y_withs, y_whereins, y_soFars, y_afters, y_found, y_foundNexts, y_arguments, y_prints, y_itemKinds, y_itemNumbers, y_pile⟩ := v'
    exact br_t rfl hp
  refine br_f (by decide) (ys_count hc (ys_tag ht ha ?_))
  by_cases z : t = 6
  · have := hs z
    refine br_t (by rw [z]; rfl) (br_f ?_ (br_f ?_ h126))
    · rw [zv_lo]; exact ne_I (b := 63) (by omega) (by omega) (by decide)
    · rw [zv_lo]; exact ne_I (b := 64) (by omega) (by omega) (by decide)
  · exact br_f (ne_I (b := 6) z (by omega) (by decide)) h126
theorem ya_tired {t a : Nat} (ht : t < 16) (ha : a < 4294967296) : ∀ (post : SY → Prop) (F : Nat), post (y_size, y_pairs, y_open, y_formCount, y_places, y_procedures, y_continuationCount, y_things, y_foundCount, y_argumentCount, y_value, y_form, y_wherein, y_next, y_working, 2, nI 600, y_made, y_entered, y_printCount, y_itemCount, y_text, y_firsts, y_rests, y_heads, y_lasts, y_globals, y_placeNames, y_placeValues, y_placeNexts, y_procedureForms, y_procedurePlaces, y_continuations, y_whats, y_withs, y_whereins, y_soFars, y_afters, y_found, y_foundNexts, y_arguments, y_prints, y_itemKinds, y_itemNumbers, y_pile) → wY_applyFound_86 post (F + 2) (zv_c t a) 1 y_size y_pairs y_open y_formCount y_places y_procedures y_continuationCount y_things y_foundCount y_argumentCount y_value y_form y_wherein y_next y_working (-1000000003) (nI 600) y_made y_entered y_printCount y_itemCount y_text y_firsts y_rests y_heads y_lasts y_globals y_placeNames y_placeValues y_placeNexts y_procedureForms y_procedurePlaces y_continuations y_whats y_withs y_whereins y_soFars y_afters y_found y_foundNexts y_arguments y_prints y_itemKinds y_itemNumbers y_pile := by
  intro post F hp
  have h127 : ∀ z, wY_applyFound_127 post (wY_applyFound_86 post (F + 1)) (zv_c t a) z y_size y_pairs y_open y_formCount y_places y_procedures y_continuationCount y_things y_foundCount y_argumentCount y_value y_form y_wherein y_next y_working 2 (nI 600) y_made y_entered y_printCount y_itemCount y_text y_firsts y_rests y_heads y_lasts y_globals y_placeNames y_placeValues y_placeNexts y_procedureForms y_procedurePlaces y_continuations y_whats y_withs y_whereins y_soFars y_afters y_found y_foundNexts y_arguments y_prints y_itemKinds y_itemNumbers y_pile := fun z => br_f (by decide) (br_t rfl (br_f (by decide) (br_t rfl hp)))
  exact br_f (by decide) (ys_tired (ys_tag ht ha (br_c (fun _ => br_c (fun _ => h127 1) (fun _ => br_c (fun _ => h127 1) (fun _ => h127 0))) (fun _ => h127 0))))
/-- Y hands over: g' is applied next -/
theorem ya_hand {v' : SY} {g' : Int64} {a : Nat} (hc : co < 600) (ha : a = 63 ∨ a = 64) (hform : match v' with | (y_size, y_pairs, y_open, y_formCount, y_places, y_procedures, y_continuationCount, y_things, y_foundCount, y_argumentCount, y_value, y_form, y_wherein, y_next, y_working, y_ending, y_counts, y_made, y_entered, y_printCount, y_itemCount, y_text, y_firsts, y_rests, y_heads, y_lasts, y_globals, y_placeNames, y_placeValues, y_placeNexts, y_procedureForms, y_procedurePlaces, y_continuations, y_whats, y_withs, y_whereins, y_soFars, y_afters, y_found, y_foundNexts, y_arguments, y_prints, y_itemKinds, y_itemNumbers, y_pile) => y_form = g')
    (hH : ∀ q : Int32 → SY → Prop, q 1 v' → wpY_hands q (y_size, y_pairs, y_open, y_formCount, y_places, y_procedures, y_continuationCount, y_things, y_foundCount, y_argumentCount, y_value, y_form, y_wherein, y_next, y_working, -1000000003, nI (co + 1), y_made, y_entered, y_printCount, y_itemCount, y_text, y_firsts, y_rests, y_heads, y_lasts, y_globals, y_placeNames, y_placeValues, y_placeNexts, y_procedureForms, y_procedurePlaces, y_continuations, y_whats, y_withs, y_whereins, y_soFars, y_afters, y_found, y_foundNexts, y_arguments, y_prints, y_itemKinds, y_itemNumbers, y_pile) (zv_c 6 a)) : ∀ (post : SY → Prop) (F : Nat), yA_loop post F g' v' → wY_applyFound_86 post (F + 1) (zv_c 6 a) 1 y_size y_pairs y_open y_formCount y_places y_procedures y_continuationCount y_things y_foundCount y_argumentCount y_value y_form y_wherein y_next y_working (-1000000003) (nI co) y_made y_entered y_printCount y_itemCount y_text y_firsts y_rests y_heads y_lasts y_globals y_placeNames y_placeValues y_placeNexts y_procedureForms y_procedurePlaces y_continuations y_whats y_withs y_whereins y_soFars y_afters y_found y_foundNexts y_arguments y_prints y_itemKinds y_itemNumbers y_pile := by
  intro post F hp
  have h122 : wY_applyFound_122 post (wY_applyFound_86 post F) (zv_c 6 a) y_size y_pairs y_open y_formCount y_places y_procedures y_continuationCount y_things y_foundCount y_argumentCount y_value y_form y_wherein y_next y_working (-1000000003) (nI (co + 1)) y_made y_entered y_printCount y_itemCount y_text y_firsts y_rests y_heads y_lasts y_globals y_placeNames y_placeValues y_placeNexts y_procedureForms y_procedurePlaces y_continuations y_whats y_withs y_whereins y_soFars y_afters y_found y_foundNexts y_arguments y_prints y_itemKinds y_itemNumbers y_pile := by
    refine br_t rfl (br_f (by decide) (hH _ ?_))
    obtain ⟨y_size, y_pairs, y_open, y_formCount, y_places, y_procedures, y_continuationCount, y_things, y_foundCount, y_argumentCount, y_value, y_form, y_wherein, y_next, y_working, y_ending, y_counts, y_made, y_entered, y_printCount, y_itemCount, y_text, y_firsts, y_rests, y_heads, y_lasts, y_globals, y_placeNames, y_placeValues, y_placeNexts, y_procedureForms, y_procedurePlaces, y_continuations, y_whats, y_withs, y_whereins, y_soFars, y_afters, y_found, y_foundNexts, y_arguments, y_prints, y_itemKinds, y_itemNumbers, y_pile⟩ := v'
    have e : y_form = g' := hform
    subst e
    exact br_f (by decide) (br_f (by decide) hp)
  refine br_f (by decide) (ys_count hc (ys_tag (by decide) (by omega) (br_t rfl ?_)))
  rcases ha with rfl | rfl
  · exact br_t (by rw [zv_lo]; rfl) h122
  · exact br_f (by rw [zv_lo]; decide) (br_t (by rw [zv_lo]; rfl) h122)
theorem ya_nohand {v' : SY} {a : Nat} (hc : co < 600) (ha : a = 63 ∨ a = 64) (hend : match v' with | (y_size, y_pairs, y_open, y_formCount, y_places, y_procedures, y_continuationCount, y_things, y_foundCount, y_argumentCount, y_value, y_form, y_wherein, y_next, y_working, y_ending, y_counts, y_made, y_entered, y_printCount, y_itemCount, y_text, y_firsts, y_rests, y_heads, y_lasts, y_globals, y_placeNames, y_placeValues, y_placeNexts, y_procedureForms, y_procedurePlaces, y_continuations, y_whats, y_withs, y_whereins, y_soFars, y_afters, y_found, y_foundNexts, y_arguments, y_prints, y_itemKinds, y_itemNumbers, y_pile) => y_ending ≠ -1000000003)
    (hH : ∀ q : Int32 → SY → Prop, q 0 v' → wpY_hands q (y_size, y_pairs, y_open, y_formCount, y_places, y_procedures, y_continuationCount, y_things, y_foundCount, y_argumentCount, y_value, y_form, y_wherein, y_next, y_working, -1000000003, nI (co + 1), y_made, y_entered, y_printCount, y_itemCount, y_text, y_firsts, y_rests, y_heads, y_lasts, y_globals, y_placeNames, y_placeValues, y_placeNexts, y_procedureForms, y_procedurePlaces, y_continuations, y_whats, y_withs, y_whereins, y_soFars, y_afters, y_found, y_foundNexts, y_arguments, y_prints, y_itemKinds, y_itemNumbers, y_pile) (zv_c 6 a)) : ∀ (post : SY → Prop) (F : Nat), post v' → wY_applyFound_86 post (F + 2) (zv_c 6 a) 1 y_size y_pairs y_open y_formCount y_places y_procedures y_continuationCount y_things y_foundCount y_argumentCount y_value y_form y_wherein y_next y_working (-1000000003) (nI co) y_made y_entered y_printCount y_itemCount y_text y_firsts y_rests y_heads y_lasts y_globals y_placeNames y_placeValues y_placeNexts y_procedureForms y_procedurePlaces y_continuations y_whats y_withs y_whereins y_soFars y_afters y_found y_foundNexts y_arguments y_prints y_itemKinds y_itemNumbers y_pile := by
  intro post F hp
  have h122 : wY_applyFound_122 post (wY_applyFound_86 post (F + 1)) (zv_c 6 a) y_size y_pairs y_open y_formCount y_places y_procedures y_continuationCount y_things y_foundCount y_argumentCount y_value y_form y_wherein y_next y_working (-1000000003) (nI (co + 1)) y_made y_entered y_printCount y_itemCount y_text y_firsts y_rests y_heads y_lasts y_globals y_placeNames y_placeValues y_placeNexts y_procedureForms y_procedurePlaces y_continuations y_whats y_withs y_whereins y_soFars y_afters y_found y_foundNexts y_arguments y_prints y_itemKinds y_itemNumbers y_pile := by
    refine br_t rfl (br_f (by decide) (hH _ ?_))
    obtain ⟨y_size, y_pairs, y_open, y_formCount, y_places, y_procedures, y_continuationCount, y_things, y_foundCount, y_argumentCount, y_value, y_form, y_wherein, y_next, y_working, y_ending, y_counts, y_made, y_entered, y_printCount, y_itemCount, y_text, y_firsts, y_rests, y_heads, y_lasts, y_globals, y_placeNames, y_placeValues, y_placeNexts, y_procedureForms, y_procedurePlaces, y_continuations, y_whats, y_withs, y_whereins, y_soFars, y_afters, y_found, y_foundNexts, y_arguments, y_prints, y_itemKinds, y_itemNumbers, y_pile⟩ := v'
    have e : y_ending ≠ -1000000003 := hend
    exact br_t rfl (br_t rfl (br_f e (br_t rfl hp)))
  refine br_f (by decide) (ys_count hc (ys_tag (by decide) (by omega) (br_t rfl ?_)))
  rcases ha with rfl | rfl
  · exact br_t (by rw [zv_lo]; rfl) h122
  · exact br_f (by rw [zv_lo]; decide) (br_t (by rw [zv_lo]; rfl) h122)
/-- the values of a list become the values -/
theorem hl_loop {k : Nat} {a : Int64} (hp : hp_OK T n M np nc py px y_firsts y_rests x_firsts x_rests) (hpy : py ≤ 900) (hpx : px ≤ 1400) (hk : k ≤ 800) :
    ∀ d i y x, i + d = k → zv_V M np nc y x → ch_N y_rests (zv_c 3) (zv_c 2 0) py d y → ∀ ay ax : Nat → Int64, (∀ j, j < i → zv_V M np nc (ay j) (ax j)) →
      ∃ ay' ax', (∀ j, j < k → zv_V M np nc (ay' j) (ax' j)) ∧
        (∀ post : SX → Prop, post (x_textLength, x_pairCount, x_placeCount, x_procedureCount, x_continuationCount, x_frameCount, x_state, x_ending, x_form, x_environment, x_frame, x_value, a, nI k, x_countedCount, x_consCount, x_entryCount, x_outputCount, x_itemCount, x_text, x_firsts, x_rests, x_placeNames, x_placeValues, x_placeOuters, x_procedureParts, x_procedurePlaces, x_continuationFrames, x_frameTasks, x_frameForms, x_frameValues, x_framePlaces, x_frameNexts, ax', x_outputs, x_itemKinds, x_itemNumbers, x_openLists) → wX_applyToList_27 post a (nI k) x_textLength x_pairCount x_placeCount x_procedureCount x_continuationCount x_frameCount x_state x_ending x_form x_environment x_frame x_value x_applied x_argumentCount x_countedCount x_consCount x_entryCount x_outputCount x_itemCount (d + 1) x (nI i) x_text x_firsts x_rests x_placeNames x_placeValues x_placeOuters x_procedureParts x_procedurePlaces x_continuationFrames x_frameTasks x_frameForms x_frameValues x_framePlaces x_frameNexts ax x_outputs x_itemKinds x_itemNumbers x_openLists) ∧
        (∀ post : Int32 → SY → Prop, post 1 (y_size, y_pairs, y_open, y_formCount, y_places, y_procedures, y_continuationCount, y_things, y_foundCount, nI k, y_value, y_form, y_wherein, y_next, y_working, y_ending, y_counts, y_made, y_entered, y_printCount, y_itemCount, y_text, y_firsts, y_rests, y_heads, y_lasts, y_globals, y_placeNames, y_placeValues, y_placeNexts, y_procedureForms, y_procedurePlaces, y_continuations, y_whats, y_withs, y_whereins, y_soFars, y_afters, y_found, y_foundNexts, ay', y_prints, y_itemKinds, y_itemNumbers, y_pile) → wY_hands_95 post (nI k) y_size y_pairs y_open y_formCount y_places y_procedures y_continuationCount y_things y_foundCount y_argumentCount y_value y_form y_wherein y_next y_working y_ending y_counts y_made y_entered y_printCount y_itemCount (d + 1) y (nI i) y_text y_firsts y_rests y_heads y_lasts y_globals y_placeNames y_placeValues y_placeNexts y_procedureForms y_procedurePlaces y_continuations y_whats y_withs y_whereins y_soFars y_afters y_found y_foundNexts ay y_prints y_itemKinds y_itemNumbers y_pile) := by
  intro d
  induction d with
  | zero =>
    intro i y x hi hV hch ay ax hA
    have : i = k := by omega
    subst this
    exact ⟨ay, ax, hA, fun post hq => br_t (nI_le (Nat.le_refl _) (by omega)) hq, fun post hq => br_t (nI_le (Nat.le_refl _) (by omega)) hq⟩
  | succ d ih =>
    intro i y x hi hV hch ay ax hA
    obtain ⟨c, c1, rfl, c2⟩ := hch
    rcases zv_Vpair hV with ⟨c', l, hM, p1, q1, ey, rfl⟩ | ⟨t, a', s, l, t1, s1, t2, s2, a1, l1, ey, ex⟩
    · have := ch_inj (t := 3) (by decide) (B := 4294967296) (by omega) c c' (by omega) p1 ey
      subst this
      obtain ⟨g1, g2⟩ := hp.1 _ _ hM
      obtain ⟨w1, w2⟩ := hp.2.2.2.1 _ _ hM
      obtain ⟨ay', ax', h1, h2, h3⟩ := ih (i + 1) _ _ (by omega) w2 c2 (vp_updL ay i (y_firsts c)) (vp_updL ax i (x_firsts l)) (fun j hj => by
        by_cases z : j = i
        · rw [z, pk_uLs, pk_uLs]; exact w1
        · rw [pk_uLn z, pk_uLn z]; exact hA j (by omega))
      have ei : (nI i).toNatClampNeg = i := nI_clamp (by omega)
      have hcl : (zv_c 2 l).toInt32.toNatClampNeg = l := zv_cl (by omega)
      have hin : vp_in (zv_c 2 l).toInt32 1400 := zv_in (by omega) (by decide)
      refine ⟨ay', ax', h1, fun post hq => ?_, fun post hq => ?_⟩
      · refine br_f (nI_ge (by omega) (by omega)) ⟨hin, vp_in_nI (by omega) (by decide), ?_⟩
        rw [hcl]
        exact nm_r (cl_L ei) ⟨hin, nm_e (nm_r (nI_1 i) (h2 post hq))⟩
      · exact br_f (nI_ge (by omega) (by omega)) (ys_firstOf (by omega) ⟨vp_in_nI (by omega) (by decide), nm_r (cl_L ei) (ys_restOf (by omega) (nm_r (nI_1 i) (h3 post hq)))⟩)
    · have := (zv_eq (by decide) (by omega) (by omega) a1).mp ey
      omega
end
end
section
/-! something is applied: all cases -/
section
variable {x_textLength : Int32} {x_pairCount : Int32} {x_placeCount : Int32} {x_procedureCount : Int32} {x_continuationCount : Int32} {x_frameCount : Int32} {x_state : Int32} {x_ending : Int32} {x_form : Int64} {x_environment : Int32} {x_frame : Int32} {x_value : Int64} {x_applied : Int64} {x_argumentCount : Int32} {x_countedCount : Int32} {x_consCount : Int32} {x_entryCount : Int32} {x_outputCount : Int32} {x_itemCount : Int32} {x_text : Nat → Int32} {x_firsts : Nat → Int64} {x_rests : Nat → Int64} {x_placeNames : Nat → Int32} {x_placeValues : Nat → Int64} {x_placeOuters : Nat → Int32} {x_procedureParts : Nat → Int64} {x_procedurePlaces : Nat → Int32} {x_continuationFrames : Nat → Int32} {x_frameTasks : Nat → Int32} {x_frameForms : Nat → Int64} {x_frameValues : Nat → Int64} {x_framePlaces : Nat → Int32} {x_frameNexts : Nat → Int32} {x_arguments : Nat → Int64} {x_outputs : Nat → Int32} {x_itemKinds : Nat → Int32} {x_itemNumbers : Nat → Int32} {x_openLists : Nat → Int64}
variable {y_size : Int32} {y_pairs : Int32} {y_open : Int32} {y_formCount : Int32} {y_places : Int32} {y_procedures : Int32} {y_continuationCount : Int32} {y_things : Int32} {y_foundCount : Int32} {y_argumentCount : Int32} {y_value : Int64} {y_form : Int64} {y_wherein : Int32} {y_next : Int32} {y_working : Int32} {y_ending : Int32} {y_counts : Int32} {y_made : Int32} {y_entered : Int32} {y_printCount : Int32} {y_itemCount : Int32} {y_text : Nat → Int32} {y_firsts : Nat → Int64} {y_rests : Nat → Int64} {y_heads : Nat → Int32} {y_lasts : Nat → Int32} {y_globals : Nat → Int64} {y_placeNames : Nat → Int32} {y_placeValues : Nat → Int64} {y_placeNexts : Nat → Int32} {y_procedureForms : Nat → Int64} {y_procedurePlaces : Nat → Int32} {y_continuations : Nat → Int32} {y_whats : Nat → Int32} {y_withs : Nat → Int64} {y_whereins : Nat → Int32} {y_soFars : Nat → Int32} {y_afters : Nat → Int32} {y_found : Nat → Int64} {y_foundNexts : Nat → Int32} {y_arguments : Nat → Int64} {y_prints : Nat → Int32} {y_itemKinds : Nat → Int32} {y_itemNumbers : Nat → Int32} {y_pile : Nat → Int64}
variable {T : Nat → Nat} {n px py pl np nc nf fo co cn et pc : Nat} {M : Nat → Nat → Prop} {G : Nat → Nat}
theorem ap_callcc (h : sm_R T n M G px py pl np nc nf fo co cn et pc (x_textLength, x_pairCount, x_placeCount, x_procedureCount, x_continuationCount, x_frameCount, 1, -1, x_form, x_environment, y_next, x_value, x_applied, nI 1, x_countedCount, x_consCount, x_entryCount, x_outputCount, x_itemCount, x_text, x_firsts, x_rests, x_placeNames, x_placeValues, x_placeOuters, x_procedureParts, x_procedurePlaces, x_continuationFrames, x_frameTasks, x_frameForms, x_frameValues, x_framePlaces, x_frameNexts, x_arguments, x_outputs, x_itemKinds, x_itemNumbers, x_openLists) (y_size, y_pairs, y_open, y_formCount, y_places, y_procedures, y_continuationCount, y_things, y_foundCount, nI 1, y_value, y_form, y_wherein, y_next, 0, -1000000003, y_counts, y_made, y_entered, y_printCount, y_itemCount, y_text, y_firsts, y_rests, y_heads, y_lasts, y_globals, y_placeNames, y_placeValues, y_placeNexts, y_procedureForms, y_procedurePlaces, y_continuations, y_whats, y_withs, y_whereins, y_soFars, y_afters, y_found, y_foundNexts, y_arguments, y_prints, y_itemKinds, y_itemNumbers, y_pile)) (hb : fo ≤ co + 1 ∧ nf ≤ co) (hc : nc + 1 ≤ co) (hf2 : fm_N nf y_next) (h0 : zv_V M np nc (y_arguments 0) (x_arguments 0)) :
    ∃ u' v', (∀ post : SX → Prop, post u' → wpX_applyBuiltIn post (x_textLength, x_pairCount, x_placeCount, x_procedureCount, x_continuationCount, x_frameCount, 1, -1, x_form, x_environment, y_next, x_value, x_applied, nI 1, x_countedCount, x_consCount, x_entryCount, x_outputCount, x_itemCount, x_text, x_firsts, x_rests, x_placeNames, x_placeValues, x_placeOuters, x_procedureParts, x_procedurePlaces, x_continuationFrames, x_frameTasks, x_frameForms, x_frameValues, x_framePlaces, x_frameNexts, x_arguments, x_outputs, x_itemKinds, x_itemNumbers, x_openLists) (nI 63)) ∧ (∀ q : Int32 → SY → Prop, q 1 v' → wpY_hands q (y_size, y_pairs, y_open, y_formCount, y_places, y_procedures, y_continuationCount, y_things, y_foundCount, nI 1, y_value, y_form, y_wherein, y_next, 0, -1000000003, y_counts, y_made, y_entered, y_printCount, y_itemCount, y_text, y_firsts, y_rests, y_heads, y_lasts, y_globals, y_placeNames, y_placeValues, y_placeNexts, y_procedureForms, y_procedurePlaces, y_continuations, y_whats, y_withs, y_whereins, y_soFars, y_afters, y_found, y_foundNexts, y_arguments, y_prints, y_itemKinds, y_itemNumbers, y_pile) (zv_c 6 63)) ∧ (match v' with | (y_size, y_pairs, y_open, y_formCount, y_places, y_procedures, y_continuationCount, y_things, y_foundCount, y_argumentCount, y_value, y_form, y_wherein, y_next, y_working, y_ending, y_counts, y_made, y_entered, y_printCount, y_itemCount, y_text, y_firsts, y_rests, y_heads, y_lasts, y_globals, y_placeNames, y_placeValues, y_placeNexts, y_procedureForms, y_procedurePlaces, y_continuations, y_whats, y_withs, y_whereins, y_soFars, y_afters, y_found, y_foundNexts, ya, y_prints, y_itemKinds, y_itemNumbers, y_pile) => y_form = y_arguments 0) ∧ sm_A T n co (y_arguments 0) u' v' := by
  have hk := rk_cont h hc hf2
  obtain ⟨a0, ⟨n1, n2, n3, n4, n5, n6, n7, n8, n9, n10, n11⟩, ⟨m1, m2, m3, m4, m5, m6, m7, m8, m9, m10, m11⟩, b0, _⟩ := h
  subst n5 m5
  have e : (nI nc).toNatClampNeg = nc := nI_clamp (by omega)
  have hi : vp_in (nI nc) 700 := vp_in_nI (by omega) (by decide)
  have hi' : vp_in (nI nc) 801 := vp_in_nI (by omega) (by decide)
  refine ⟨(x_textLength, x_pairCount, x_placeCount, x_procedureCount, nI (nc + 1), x_frameCount, 1, -1, x_form, x_environment, y_next, x_value, x_arguments 0, nI 1, x_countedCount, x_consCount, x_entryCount, x_outputCount, x_itemCount, x_text, x_firsts, x_rests, x_placeNames, x_placeValues, x_placeOuters, x_procedureParts, x_procedurePlaces, upd x_continuationFrames nc y_next, x_frameTasks, x_frameForms, x_frameValues, x_framePlaces, x_frameNexts, vp_updL x_arguments 0 (zv_c 7 nc), x_outputs, x_itemKinds, x_itemNumbers, x_openLists),
    (y_size, y_pairs, y_open, y_formCount, y_places, y_procedures, nI (nc + 1), y_things, y_foundCount, nI 1, y_value, y_arguments 0, y_wherein, y_next, 0, -1000000003, y_counts, y_made, y_entered, y_printCount, y_itemCount, y_text, y_firsts, y_rests, y_heads, y_lasts, y_globals, y_placeNames, y_placeValues, y_placeNexts, y_procedureForms, y_procedurePlaces, upd y_continuations nc y_next, y_whats, y_withs, y_whereins, y_soFars, y_afters, y_found, y_foundNexts, vp_updL y_arguments 0 (zv_c 7 nc), y_prints, y_itemKinds, y_itemNumbers, y_pile), fun post hp => ?_, fun q hq => ?_, rfl,
    ⟨M, G, px, py, pl, np, nc + 1, nf, fo, cn, et, pc, 1, rk_ig hk, by omega, rfl, rfl, rfl, rfl, zv_V_mono (fun _ _ h => h) (Nat.le_refl _) (by omega) h0, rfl, rfl, fun i hi => ?_, rfl, hf2⟩⟩
  · refine xb_go (by decide) (by decide) ?_
    exact br_t rfl (br_f (by decide) (br_f (by decide) (br_f (by decide) (br_f (by decide) (br_f (by decide) (br_f (by decide) (br_f (by decide) (br_f (by decide) (br_f (by decide) (br_f (by decide) (br_f (by decide) (br_f (by decide) (br_f (by decide) (br_f (by decide) (br_f (by decide) (br_t rfl
      (br_t (nI_lt (b := 700) (by omega) (by decide)) ⟨hi, nm_r (cl_I e) (nm_e (xs_tagged (t := 7) (k := nc) rfl rfl (by decide) (by omega) (nm_e (nm_r (nI_1 nc) hp))))⟩)))))))))))))))))
  · refine br_f (by rw [zv_lo]; decide) (br_t rfl (br_t rfl (br_t rfl (br_t (by decide) (nm_e (br_t rfl ⟨hi', nm_r (cl_I e) (ys_thing (t := 7) (k := nc) rfl rfl (by decide) (by omega) (nm_e (nm_r (nI_1 nc) hq)))⟩))))))
  · have : i = 0 := by omega
    subst this
    rw [pk_uLs, pk_uLs]
    exact ⟨7, nc, 7, nc, by omega, by omega, rfl, rfl, Or.inr (Or.inr (Or.inr (Or.inr (Or.inr (Or.inr (Or.inr (Or.inl ⟨rfl, rfl, rfl, by omega⟩)))))))⟩
theorem ap_apply (h : sm_R T n M G px py pl np nc nf fo co cn et pc (x_textLength, x_pairCount, x_placeCount, x_procedureCount, x_continuationCount, x_frameCount, 1, -1, x_form, x_environment, y_next, x_value, x_applied, nI 2, x_countedCount, x_consCount, x_entryCount, x_outputCount, x_itemCount, x_text, x_firsts, x_rests, x_placeNames, x_placeValues, x_placeOuters, x_procedureParts, x_procedurePlaces, x_continuationFrames, x_frameTasks, x_frameForms, x_frameValues, x_framePlaces, x_frameNexts, x_arguments, x_outputs, x_itemKinds, x_itemNumbers, x_openLists) (y_size, y_pairs, y_open, y_formCount, y_places, y_procedures, y_continuationCount, y_things, y_foundCount, nI 2, y_value, y_form, y_wherein, y_next, 0, -1000000003, y_counts, y_made, y_entered, y_printCount, y_itemCount, y_text, y_firsts, y_rests, y_heads, y_lasts, y_globals, y_placeNames, y_placeValues, y_placeNexts, y_procedureForms, y_procedurePlaces, y_continuations, y_whats, y_withs, y_whereins, y_soFars, y_afters, y_found, y_foundNexts, y_arguments, y_prints, y_itemKinds, y_itemNumbers, y_pile)) (hb : fo ≤ co + 1 ∧ nf ≤ co) (hf2 : fm_N nf y_next) (h0 : zv_V M np nc (y_arguments 0) (x_arguments 0)) (h1 : zv_V M np nc (y_arguments 1) (x_arguments 1)) :
    (∃ u' v', (∀ post : SX → Prop, post u' → wpX_applyBuiltIn post (x_textLength, x_pairCount, x_placeCount, x_procedureCount, x_continuationCount, x_frameCount, 1, -1, x_form, x_environment, y_next, x_value, x_applied, nI 2, x_countedCount, x_consCount, x_entryCount, x_outputCount, x_itemCount, x_text, x_firsts, x_rests, x_placeNames, x_placeValues, x_placeOuters, x_procedureParts, x_procedurePlaces, x_continuationFrames, x_frameTasks, x_frameForms, x_frameValues, x_framePlaces, x_frameNexts, x_arguments, x_outputs, x_itemKinds, x_itemNumbers, x_openLists) (nI 64)) ∧ (∀ q : Int32 → SY → Prop, q 1 v' → wpY_hands q (y_size, y_pairs, y_open, y_formCount, y_places, y_procedures, y_continuationCount, y_things, y_foundCount, nI 2, y_value, y_form, y_wherein, y_next, 0, -1000000003, y_counts, y_made, y_entered, y_printCount, y_itemCount, y_text, y_firsts, y_rests, y_heads, y_lasts, y_globals, y_placeNames, y_placeValues, y_placeNexts, y_procedureForms, y_procedurePlaces, y_continuations, y_whats, y_withs, y_whereins, y_soFars, y_afters, y_found, y_foundNexts, y_arguments, y_prints, y_itemKinds, y_itemNumbers, y_pile) (zv_c 6 64)) ∧ (match v' with | (y_size, y_pairs, y_open, y_formCount, y_places, y_procedures, y_continuationCount, y_things, y_foundCount, y_argumentCount, y_value, y_form, y_wherein, y_next, y_working, y_ending, y_counts, y_made, y_entered, y_printCount, y_itemCount, y_text, y_firsts, y_rests, y_heads, y_lasts, y_globals, y_placeNames, y_placeValues, y_placeNexts, y_procedureForms, y_procedurePlaces, y_continuations, y_whats, y_withs, y_whereins, y_soFars, y_afters, y_found, y_foundNexts, ya, y_prints, y_itemKinds, y_itemNumbers, y_pile) => y_form = y_arguments 0) ∧ sm_A T n co (y_arguments 0) u' v') ∨
    (∃ u' v', (∀ post : SX → Prop, post u' → wpX_applyBuiltIn post (x_textLength, x_pairCount, x_placeCount, x_procedureCount, x_continuationCount, x_frameCount, 1, -1, x_form, x_environment, y_next, x_value, x_applied, nI 2, x_countedCount, x_consCount, x_entryCount, x_outputCount, x_itemCount, x_text, x_firsts, x_rests, x_placeNames, x_placeValues, x_placeOuters, x_procedureParts, x_procedurePlaces, x_continuationFrames, x_frameTasks, x_frameForms, x_frameValues, x_framePlaces, x_frameNexts, x_arguments, x_outputs, x_itemKinds, x_itemNumbers, x_openLists) (nI 64)) ∧ (∀ q : Int32 → SY → Prop, q 0 v' → wpY_hands q (y_size, y_pairs, y_open, y_formCount, y_places, y_procedures, y_continuationCount, y_things, y_foundCount, nI 2, y_value, y_form, y_wherein, y_next, 0, -1000000003, y_counts, y_made, y_entered, y_printCount, y_itemCount, y_text, y_firsts, y_rests, y_heads, y_lasts, y_globals, y_placeNames, y_placeValues, y_placeNexts, y_procedureForms, y_procedurePlaces, y_continuations, y_whats, y_withs, y_whereins, y_soFars, y_afters, y_found, y_foundNexts, y_arguments, y_prints, y_itemKinds, y_itemNumbers, y_pile) (zv_c 6 64)) ∧ (match v' with | (y_size, y_pairs, y_open, y_formCount, y_places, y_procedures, y_continuationCount, y_things, y_foundCount, y_argumentCount, y_value, y_form, y_wherein, y_next, y_working, y_ending, y_counts, y_made, y_entered, y_printCount, y_itemCount, y_text, y_firsts, y_rests, y_heads, y_lasts, y_globals, y_placeNames, y_placeValues, y_placeNexts, y_procedureForms, y_procedurePlaces, y_continuations, y_whats, y_withs, y_whereins, y_soFars, y_afters, y_found, y_foundNexts, y_arguments, y_prints, y_itemKinds, y_itemNumbers, y_pile) => y_ending ≠ -1000000003) ∧ sm_E T n u' v') := by
  have hr := h
  obtain ⟨a0, ⟨n1, n2, n3, n4, n5, n6, n7, n8, n9, n10, n11⟩, ⟨m1, m2, m3, m4, m5, m6, m7, m8, m9, m10, m11⟩, b0, c1, c2, _⟩ := hr
  subst n2
  have hpx : px ≤ 1400 := by omega
  have hpy : py ≤ 900 := by omega
  have hp := c2.1
  have hSX : ∀ v, (∃ y, zv_V M np nc y v) → ∃ s l, s < 16 ∧ l < 4294967296 ∧ v = zv_c s l ∧ (s = 2 → l < px ∧ ∃ y, zv_V M np nc y (x_rests l)) ∧ (s = 3 → l = 0) := by
    intro v ⟨y, t, a, s, l, v1, v2, v3, v4, vK⟩
    have vb := zv_K_b vK
    have vp := zv_K_p vK
    refine ⟨s, l, by omega, v2, v4, fun z => ?_, fun z => ?_⟩
    · have m := vp.2.1 (vp.1.mpr z)
      exact ⟨(hp.1 _ _ m).2, _, (hp.2.2.2.1 _ _ m).2⟩
    · have := vp.2.2.2.2.1 (vp.2.2.1.mpr z); omega
  have hSY : ∀ v, (∃ x, zv_V M np nc v x) → ∃ s l, s < 16 ∧ l < 4294967296 ∧ v = zv_c s l ∧ (s = 3 → l < py ∧ ∃ x, zv_V M np nc (y_rests l) x) ∧ (s = 2 → l = 0) := by
    intro v ⟨x, t, a, s, l, v1, v2, v3, v4, vK⟩
    have vb := zv_K_b vK
    have vp := zv_K_p vK
    refine ⟨t, a, by omega, v1, v3, fun z => ?_, fun z => ?_⟩
    · have m := vp.2.1 z
      exact ⟨(hp.1 _ _ m).1, _, (hp.2.2.2.1 _ _ m).2⟩
    · have := vp.2.2.2.2.1 z; omega
  have hiff := fun k => ch_iff (by omega) (by omega) hp k _ _ h1
  by_cases hex : ∃ k, ch_N y_rests (zv_c 3) (zv_c 2 0) py k (y_arguments 1)
  · left
    obtain ⟨k, hk⟩ := hex
    have hkX := (hiff k).mp hk
    have hkb : k ≤ py := ch_len (ch_Y0 (by omega)) (ch_inj (by decide) (by omega)) hk
    obtain ⟨ay', ax', g1, g2, g3⟩ := hl_loop (x_textLength := x_textLength) (x_pairCount := nI px) (x_placeCount := x_placeCount) (x_procedureCount := x_procedureCount) (x_continuationCount := x_continuationCount) (x_frameCount := x_frameCount) (x_state := 1) (x_ending := -1) (x_form := x_form) (x_environment := x_environment) (x_frame := y_next) (x_value := x_value) (x_applied := x_applied) (x_argumentCount := nI 2) (x_countedCount := x_countedCount) (x_consCount := x_consCount) (x_entryCount := x_entryCount) (x_outputCount := x_outputCount) (x_itemCount := x_itemCount) (x_text := x_text) (x_placeNames := x_placeNames) (x_placeValues := x_placeValues) (x_placeOuters := x_placeOuters) (x_procedureParts := x_procedureParts) (x_procedurePlaces := x_procedurePlaces) (x_continuationFrames := x_continuationFrames) (x_frameTasks := x_frameTasks) (x_frameForms := x_frameForms) (x_frameValues := x_frameValues) (x_framePlaces := x_framePlaces) (x_frameNexts := x_frameNexts) (x_outputs := x_outputs) (x_itemKinds := x_itemKinds) (x_itemNumbers := x_itemNumbers) (x_openLists := x_openLists)
      (y_size := y_size) (y_pairs := y_pairs) (y_open := y_open) (y_formCount := y_formCount) (y_places := y_places) (y_procedures := y_procedures) (y_continuationCount := y_continuationCount) (y_things := y_things) (y_foundCount := y_foundCount) (y_argumentCount := nI 2) (y_value := y_value) (y_form := y_arguments 0) (y_wherein := y_wherein) (y_next := y_next) (y_working := 0) (y_ending := -1000000003) (y_counts := y_counts) (y_made := y_made) (y_entered := y_entered) (y_printCount := y_printCount) (y_itemCount := y_itemCount) (y_text := y_text) (y_heads := y_heads) (y_lasts := y_lasts) (y_globals := y_globals) (y_placeNames := y_placeNames) (y_placeValues := y_placeValues) (y_placeNexts := y_placeNexts) (y_procedureForms := y_procedureForms) (y_procedurePlaces := y_procedurePlaces) (y_continuations := y_continuations) (y_whats := y_whats) (y_withs := y_withs) (y_whereins := y_whereins) (y_soFars := y_soFars) (y_afters := y_afters) (y_found := y_found) (y_foundNexts := y_foundNexts) (y_prints := y_prints) (y_itemKinds := y_itemKinds) (y_itemNumbers := y_itemNumbers) (y_pile := y_pile)
      (k := k) (a := x_arguments 0) hp hpy hpx (by omega) k 0 _ _ (by omega) h1 hk y_arguments x_arguments (fun j hj => by omega)
    refine ⟨(x_textLength, nI px, x_placeCount, x_procedureCount, x_continuationCount, x_frameCount, 1, -1, x_form, x_environment, y_next, x_value, x_arguments 0, nI k, x_countedCount, x_consCount, x_entryCount, x_outputCount, x_itemCount, x_text, x_firsts, x_rests, x_placeNames, x_placeValues, x_placeOuters, x_procedureParts, x_procedurePlaces, x_continuationFrames, x_frameTasks, x_frameForms, x_frameValues, x_framePlaces, x_frameNexts, ax', x_outputs, x_itemKinds, x_itemNumbers, x_openLists), (y_size, y_pairs, y_open, y_formCount, y_places, y_procedures, y_continuationCount, y_things, y_foundCount, nI k, y_value, y_arguments 0, y_wherein, y_next, 0, -1000000003, y_counts, y_made, y_entered, y_printCount, y_itemCount, y_text, y_firsts, y_rests, y_heads, y_lasts, y_globals, y_placeNames, y_placeValues, y_placeNexts, y_procedureForms, y_procedurePlaces, y_continuations, y_whats, y_withs, y_whereins, y_soFars, y_afters, y_found, y_foundNexts, ay', y_prints, y_itemKinds, y_itemNumbers, y_pile), fun post hq => ?_, fun q hq => ?_, rfl,
      ⟨M, G, px, py, pl, np, nc, nf, fo, cn, et, pc, k, rk_ig h, by omega, rfl, rfl, rfl, rfl, h0, rfl, rfl, g1, rfl, hf2⟩⟩
    · refine xb_go (by decide) (by decide) (br_t rfl (br_f (by decide) (br_t (by decide) ?_)))
      unfold wpX_applyToList
      exact xs_len_ch hpx hkX (br_f (fun z => by have := nI_pos (n := k) (by omega); rw [z] at this; exact this (by decide)) ⟨k + 1, g2 _ hq⟩)
    · refine br_t (by rw [zv_lo]; rfl) (br_f (by decide) (br_t rfl (br_f (by decide) ?_)))
      exact ys_len_ch hpy hk (br_t (nI_pos' (by omega)) (nm_e (br_f (by decide) (nm_e ⟨k + 1, g3 _ hq⟩))))
  · right
    have hE := sm_E_R (e := 7) h (by decide) (by decide)
    refine ⟨_, _, fun post hq => ?_, fun q hq => ?_, (by decide : (7 : Int32) ≠ -1000000003), hE⟩
    · refine xb_go (by decide) (by decide) (br_t rfl (br_f (by decide) (br_t (by decide) ?_)))
      unfold wpX_applyToList
      exact xs_len hpx hSX ⟨_, h1⟩ (fun k hk => absurd ⟨k, (hiff k).mpr hk⟩ hex) (fun _ => br_t rfl hq)
    · refine br_t (by rw [zv_lo]; rfl) (br_f (by decide) (br_t rfl (br_f (by decide) ?_)))
      exact ys_len hpy hSY ⟨_, h1⟩ (fun k hk => absurd ⟨k, hk⟩ hex) (fun _ => br_f (by decide) hq)
end
end
section
/-! something is applied -/
section
variable {x_textLength : Int32} {x_pairCount : Int32} {x_placeCount : Int32} {x_procedureCount : Int32} {x_continuationCount : Int32} {x_frameCount : Int32} {x_state : Int32} {x_ending : Int32} {x_form : Int64} {x_environment : Int32} {x_frame : Int32} {x_value : Int64} {x_applied : Int64} {x_argumentCount : Int32} {x_countedCount : Int32} {x_consCount : Int32} {x_entryCount : Int32} {x_outputCount : Int32} {x_itemCount : Int32} {x_text : Nat → Int32} {x_firsts : Nat → Int64} {x_rests : Nat → Int64} {x_placeNames : Nat → Int32} {x_placeValues : Nat → Int64} {x_placeOuters : Nat → Int32} {x_procedureParts : Nat → Int64} {x_procedurePlaces : Nat → Int32} {x_continuationFrames : Nat → Int32} {x_frameTasks : Nat → Int32} {x_frameForms : Nat → Int64} {x_frameValues : Nat → Int64} {x_framePlaces : Nat → Int32} {x_frameNexts : Nat → Int32} {x_arguments : Nat → Int64} {x_outputs : Nat → Int32} {x_itemKinds : Nat → Int32} {x_itemNumbers : Nat → Int32} {x_openLists : Nat → Int64}
variable {y_size : Int32} {y_pairs : Int32} {y_open : Int32} {y_formCount : Int32} {y_places : Int32} {y_procedures : Int32} {y_continuationCount : Int32} {y_things : Int32} {y_foundCount : Int32} {y_argumentCount : Int32} {y_value : Int64} {y_form : Int64} {y_wherein : Int32} {y_next : Int32} {y_working : Int32} {y_ending : Int32} {y_counts : Int32} {y_made : Int32} {y_entered : Int32} {y_printCount : Int32} {y_itemCount : Int32} {y_text : Nat → Int32} {y_firsts : Nat → Int64} {y_rests : Nat → Int64} {y_heads : Nat → Int32} {y_lasts : Nat → Int32} {y_globals : Nat → Int64} {y_placeNames : Nat → Int32} {y_placeValues : Nat → Int64} {y_placeNexts : Nat → Int32} {y_procedureForms : Nat → Int64} {y_procedurePlaces : Nat → Int32} {y_continuations : Nat → Int32} {y_whats : Nat → Int32} {y_withs : Nat → Int64} {y_whereins : Nat → Int32} {y_soFars : Nat → Int32} {y_afters : Nat → Int32} {y_found : Nat → Int64} {y_foundNexts : Nat → Int32} {y_arguments : Nat → Int64} {y_prints : Nat → Int32} {y_itemKinds : Nat → Int32} {y_itemNumbers : Nat → Int32} {y_pile : Nat → Int64}
variable {T : Nat → Nat} {n px py pl np nc nf fo co cn et pc : Nat} {M : Nat → Nat → Prop} {G : Nat → Nat}
theorem xa_5 {u' : SX} {k : Nat} (hc : co < 600) (hk : k < 4294967296) (hw : ∀ post : SX → Prop, post u' → wpX_enterProcedure post (x_textLength, x_pairCount, x_placeCount, x_procedureCount, x_continuationCount, x_frameCount, x_state, x_ending, x_form, x_environment, x_frame, x_value, zv_c 5 k, x_argumentCount, nI (co + 1), x_consCount, x_entryCount, x_outputCount, x_itemCount, x_text, x_firsts, x_rests, x_placeNames, x_placeValues, x_placeOuters, x_procedureParts, x_procedurePlaces, x_continuationFrames, x_frameTasks, x_frameForms, x_frameValues, x_framePlaces, x_frameNexts, x_arguments, x_outputs, x_itemKinds, x_itemNumbers, x_openLists) (nI k)) : ∀ post : SX → Prop, post u' → wpX_applyNow post (x_textLength, x_pairCount, x_placeCount, x_procedureCount, x_continuationCount, x_frameCount, x_state, x_ending, x_form, x_environment, x_frame, x_value, zv_c 5 k, x_argumentCount, nI co, x_consCount, x_entryCount, x_outputCount, x_itemCount, x_text, x_firsts, x_rests, x_placeNames, x_placeValues, x_placeOuters, x_procedureParts, x_procedurePlaces, x_continuationFrames, x_frameTasks, x_frameForms, x_frameValues, x_framePlaces, x_frameNexts, x_arguments, x_outputs, x_itemKinds, x_itemNumbers, x_openLists) := by
  intro post hp
  unfold wpX_applyNow
  refine xs_countOne hc (br_f (by decide) (xs_tagOf (by decide) hk (br_f (by decide) (br_f (by decide) (br_t rfl ?_)))))
  rw [zv_lo]
  refine hw _ ?_
  obtain ⟨x_textLength, x_pairCount, x_placeCount, x_procedureCount, x_continuationCount, x_frameCount, x_state, x_ending, x_form, x_environment, x_frame, x_value, x_applied, x_argumentCount, x_countedCount, x_consCount, x_entryCount, x_outputCount, x_itemCount, x_text, x_firsts, x_rests, x_placeNames, x_placeValues, x_placeOuters, x_procedureParts, x_procedurePlaces, x_continuationFrames, x_frameTasks, x_frameForms, x_frameValues, x_framePlaces, x_frameNexts, x_arguments, x_outputs, x_itemKinds, x_itemNumbers, x_openLists⟩ := u'
  exact hp
theorem xa_6 {u' : SX} {k : Nat} (hc : co < 600) (hk : k < 4294967296) (hw : ∀ post : SX → Prop, post u' → wpX_applyBuiltIn post (x_textLength, x_pairCount, x_placeCount, x_procedureCount, x_continuationCount, x_frameCount, x_state, x_ending, x_form, x_environment, x_frame, x_value, zv_c 6 k, x_argumentCount, nI (co + 1), x_consCount, x_entryCount, x_outputCount, x_itemCount, x_text, x_firsts, x_rests, x_placeNames, x_placeValues, x_placeOuters, x_procedureParts, x_procedurePlaces, x_continuationFrames, x_frameTasks, x_frameForms, x_frameValues, x_framePlaces, x_frameNexts, x_arguments, x_outputs, x_itemKinds, x_itemNumbers, x_openLists) (nI k)) : ∀ post : SX → Prop, post u' → wpX_applyNow post (x_textLength, x_pairCount, x_placeCount, x_procedureCount, x_continuationCount, x_frameCount, x_state, x_ending, x_form, x_environment, x_frame, x_value, zv_c 6 k, x_argumentCount, nI co, x_consCount, x_entryCount, x_outputCount, x_itemCount, x_text, x_firsts, x_rests, x_placeNames, x_placeValues, x_placeOuters, x_procedureParts, x_procedurePlaces, x_continuationFrames, x_frameTasks, x_frameForms, x_frameValues, x_framePlaces, x_frameNexts, x_arguments, x_outputs, x_itemKinds, x_itemNumbers, x_openLists) := by
  intro post hp
  unfold wpX_applyNow
  refine xs_countOne hc (br_f (by decide) (xs_tagOf (by decide) hk (br_f (by decide) (br_f (by decide) (br_f (by decide) (br_t rfl ?_))))))
  rw [zv_lo]
  refine hw _ ?_
  obtain ⟨x_textLength, x_pairCount, x_placeCount, x_procedureCount, x_continuationCount, x_frameCount, x_state, x_ending, x_form, x_environment, x_frame, x_value, x_applied, x_argumentCount, x_countedCount, x_consCount, x_entryCount, x_outputCount, x_itemCount, x_text, x_firsts, x_rests, x_placeNames, x_placeValues, x_placeOuters, x_procedureParts, x_procedurePlaces, x_continuationFrames, x_frameTasks, x_frameForms, x_frameValues, x_framePlaces, x_frameNexts, x_arguments, x_outputs, x_itemKinds, x_itemNumbers, x_openLists⟩ := u'
  exact hp
theorem xa_7 {u' : SX} {k : Nat} (hc : co < 600) (hk : k < 4294967296) (hw : ∀ post : SX → Prop, post u' → wpX_enterContinuation post (x_textLength, x_pairCount, x_placeCount, x_procedureCount, x_continuationCount, x_frameCount, x_state, x_ending, x_form, x_environment, x_frame, x_value, zv_c 7 k, x_argumentCount, nI (co + 1), x_consCount, x_entryCount, x_outputCount, x_itemCount, x_text, x_firsts, x_rests, x_placeNames, x_placeValues, x_placeOuters, x_procedureParts, x_procedurePlaces, x_continuationFrames, x_frameTasks, x_frameForms, x_frameValues, x_framePlaces, x_frameNexts, x_arguments, x_outputs, x_itemKinds, x_itemNumbers, x_openLists) (nI k)) : ∀ post : SX → Prop, post u' → wpX_applyNow post (x_textLength, x_pairCount, x_placeCount, x_procedureCount, x_continuationCount, x_frameCount, x_state, x_ending, x_form, x_environment, x_frame, x_value, zv_c 7 k, x_argumentCount, nI co, x_consCount, x_entryCount, x_outputCount, x_itemCount, x_text, x_firsts, x_rests, x_placeNames, x_placeValues, x_placeOuters, x_procedureParts, x_procedurePlaces, x_continuationFrames, x_frameTasks, x_frameForms, x_frameValues, x_framePlaces, x_frameNexts, x_arguments, x_outputs, x_itemKinds, x_itemNumbers, x_openLists) := by
  intro post hp
  unfold wpX_applyNow
  refine xs_countOne hc (br_f (by decide) (xs_tagOf (by decide) hk (br_f (by decide) (br_f (by decide) (br_f (by decide) (br_f (by decide) (br_t rfl ?_)))))))
  rw [zv_lo]
  refine hw _ ?_
  obtain ⟨x_textLength, x_pairCount, x_placeCount, x_procedureCount, x_continuationCount, x_frameCount, x_state, x_ending, x_form, x_environment, x_frame, x_value, x_applied, x_argumentCount, x_countedCount, x_consCount, x_entryCount, x_outputCount, x_itemCount, x_text, x_firsts, x_rests, x_placeNames, x_placeValues, x_placeOuters, x_procedureParts, x_procedurePlaces, x_continuationFrames, x_frameTasks, x_frameForms, x_frameValues, x_framePlaces, x_frameNexts, x_arguments, x_outputs, x_itemKinds, x_itemNumbers, x_openLists⟩ := u'
  exact hp
theorem st_A {g : Int64} (h : sm_A T n co g (x_textLength, x_pairCount, x_placeCount, x_procedureCount, x_continuationCount, x_frameCount, x_state, x_ending, x_form, x_environment, x_frame, x_value, x_applied, x_argumentCount, x_countedCount, x_consCount, x_entryCount, x_outputCount, x_itemCount, x_text, x_firsts, x_rests, x_placeNames, x_placeValues, x_placeOuters, x_procedureParts, x_procedurePlaces, x_continuationFrames, x_frameTasks, x_frameForms, x_frameValues, x_framePlaces, x_frameNexts, x_arguments, x_outputs, x_itemKinds, x_itemNumbers, x_openLists) (y_size, y_pairs, y_open, y_formCount, y_places, y_procedures, y_continuationCount, y_things, y_foundCount, y_argumentCount, y_value, y_form, y_wherein, y_next, y_working, y_ending, y_counts, y_made, y_entered, y_printCount, y_itemCount, y_text, y_firsts, y_rests, y_heads, y_lasts, y_globals, y_placeNames, y_placeValues, y_placeNexts, y_procedureForms, y_procedurePlaces, y_continuations, y_whats, y_withs, y_whereins, y_soFars, y_afters, y_found, y_foundNexts, y_arguments, y_prints, y_itemKinds, y_itemNumbers, y_pile)) :
    (∃ u' v', (∀ post : SX → Prop, post u' → wpX_applyNow post (x_textLength, x_pairCount, x_placeCount, x_procedureCount, x_continuationCount, x_frameCount, x_state, x_ending, x_form, x_environment, x_frame, x_value, x_applied, x_argumentCount, x_countedCount, x_consCount, x_entryCount, x_outputCount, x_itemCount, x_text, x_firsts, x_rests, x_placeNames, x_placeValues, x_placeOuters, x_procedureParts, x_procedurePlaces, x_continuationFrames, x_frameTasks, x_frameForms, x_frameValues, x_framePlaces, x_frameNexts, x_arguments, x_outputs, x_itemKinds, x_itemNumbers, x_openLists)) ∧ (∀ (post : SY → Prop) (F : Nat), post v' → yA_loop post (F + 2) g (y_size, y_pairs, y_open, y_formCount, y_places, y_procedures, y_continuationCount, y_things, y_foundCount, y_argumentCount, y_value, y_form, y_wherein, y_next, y_working, y_ending, y_counts, y_made, y_entered, y_printCount, y_itemCount, y_text, y_firsts, y_rests, y_heads, y_lasts, y_globals, y_placeNames, y_placeValues, y_placeNexts, y_procedureForms, y_procedurePlaces, y_continuations, y_whats, y_withs, y_whereins, y_soFars, y_afters, y_found, y_foundNexts, y_arguments, y_prints, y_itemKinds, y_itemNumbers, y_pile)) ∧ (sm_E T n u' v' ∨ (co < 600 ∧ sm_to T n (co + 1) u' v'))) ∨
    (∃ u' v' g', (∀ post : SX → Prop, post u' → wpX_applyNow post (x_textLength, x_pairCount, x_placeCount, x_procedureCount, x_continuationCount, x_frameCount, x_state, x_ending, x_form, x_environment, x_frame, x_value, x_applied, x_argumentCount, x_countedCount, x_consCount, x_entryCount, x_outputCount, x_itemCount, x_text, x_firsts, x_rests, x_placeNames, x_placeValues, x_placeOuters, x_procedureParts, x_procedurePlaces, x_continuationFrames, x_frameTasks, x_frameForms, x_frameValues, x_framePlaces, x_frameNexts, x_arguments, x_outputs, x_itemKinds, x_itemNumbers, x_openLists)) ∧ (∀ (post : SY → Prop) (F : Nat), yA_loop post F g' v' → yA_loop post (F + 1) g (y_size, y_pairs, y_open, y_formCount, y_places, y_procedures, y_continuationCount, y_things, y_foundCount, y_argumentCount, y_value, y_form, y_wherein, y_next, y_working, y_ending, y_counts, y_made, y_entered, y_printCount, y_itemCount, y_text, y_firsts, y_rests, y_heads, y_lasts, y_globals, y_placeNames, y_placeValues, y_placeNexts, y_procedureForms, y_procedurePlaces, y_continuations, y_whats, y_withs, y_whereins, y_soFars, y_afters, y_found, y_foundNexts, y_arguments, y_prints, y_itemKinds, y_itemNumbers, y_pile)) ∧ co < 600 ∧ sm_A T n (co + 1) g' u' v') := by
  obtain ⟨M, G, px, py, pl, np, nc, nf, fo, cn, et, pc, ac, h, ⟨hb1, hb2, hac⟩, s1, s2, s3, s4, hV, s5, s6, harg, hf, hf2⟩ := h
  have hr := h
  obtain ⟨a0, ⟨n1, n2, n3, n4, n5, n6, n7, n8, n9, n10, n11⟩, ⟨m1, m2, m3, m4, m5, m6, m7, m8, m9, m10, m11⟩, b0, _⟩ := hr
  obtain ⟨t, a, s, l, v1, v2, v3, v4, vK⟩ := hV
  have vb := zv_K_b vK
  subst s1 s2 s3 s4 s5 s6 n7 m8 v3 v4
  by_cases hc6 : co = 600
  · subst hc6
    refine Or.inl ⟨(x_textLength, x_pairCount, x_placeCount, x_procedureCount, x_continuationCount, x_frameCount, 1, 2, x_form, x_environment, x_frame, x_value, zv_c s l, nI ac, nI 600, x_consCount, x_entryCount, x_outputCount, x_itemCount, x_text, x_firsts, x_rests, x_placeNames, x_placeValues, x_placeOuters, x_procedureParts, x_procedurePlaces, x_continuationFrames, x_frameTasks, x_frameForms, x_frameValues, x_framePlaces, x_frameNexts, x_arguments, x_outputs, x_itemKinds, x_itemNumbers, x_openLists), (y_size, y_pairs, y_open, y_formCount, y_places, y_procedures, y_continuationCount, y_things, y_foundCount, nI ac, y_value, y_form, y_wherein, y_next, 0, 2, nI 600, y_made, y_entered, y_printCount, y_itemCount, y_text, y_firsts, y_rests, y_heads, y_lasts, y_globals, y_placeNames, y_placeValues, y_placeNexts, y_procedureForms, y_procedurePlaces, y_continuations, y_whats, y_withs, y_whereins, y_soFars, y_afters, y_found, y_foundNexts, y_arguments, y_prints, y_itemKinds, y_itemNumbers, y_pile), fun post hp => ?_, fun post F hp => ya_tired (by omega) v1 post F hp, Or.inl (sm_E_R (e := 2) h (by decide) (by decide))⟩
    unfold wpX_applyNow
    exact xs_tired (br_t rfl hp)
  · have hlt : co < 600 := by omega
    have hk := rk_count h hlt
    have hbb : fo ≤ co + 1 ∧ nf ≤ co + 1 := by omega
    have none : (s < 5 ∨ s = 8) → t ≠ 5 → t ≠ 6 → t ≠ 7 → ∃ u' v', (∀ post : SX → Prop, post u' → wpX_applyNow post (x_textLength, x_pairCount, x_placeCount, x_procedureCount, x_continuationCount, x_frameCount, 1, -1, x_form, x_environment, x_frame, x_value, zv_c s l, nI ac, nI co, x_consCount, x_entryCount, x_outputCount, x_itemCount, x_text, x_firsts, x_rests, x_placeNames, x_placeValues, x_placeOuters, x_procedureParts, x_procedurePlaces, x_continuationFrames, x_frameTasks, x_frameForms, x_frameValues, x_framePlaces, x_frameNexts, x_arguments, x_outputs, x_itemKinds, x_itemNumbers, x_openLists)) ∧ (∀ (post : SY → Prop) (F : Nat), post v' → yA_loop post (F + 2) (zv_c t a) (y_size, y_pairs, y_open, y_formCount, y_places, y_procedures, y_continuationCount, y_things, y_foundCount, nI ac, y_value, y_form, y_wherein, y_next, 0, -1000000003, nI co, y_made, y_entered, y_printCount, y_itemCount, y_text, y_firsts, y_rests, y_heads, y_lasts, y_globals, y_placeNames, y_placeValues, y_placeNexts, y_procedureForms, y_procedurePlaces, y_continuations, y_whats, y_withs, y_whereins, y_soFars, y_afters, y_found, y_foundNexts, y_arguments, y_prints, y_itemKinds, y_itemNumbers, y_pile)) ∧ (sm_E T n u' v' ∨ (co < 600 ∧ sm_to T n (co + 1) u' v')) := by
      intro q1 q2 q3 q4
      have hE := sm_E_R (e := 5) hk (by decide) (by decide)
      refine ⟨_, _, fun post hp => ?_, ya_app hlt (by omega) v1 (fun z => q3 z.1) (fun z => absurd z q3) (fun q hq => ?_), Or.inl hE⟩
      · unfold wpX_applyNow
        refine xs_countOne hlt (br_f (by decide) (xs_tagOf (by omega) v2 ?_))
        rcases q1 with q1 | q1
        · exact br_t (nI_lt (b := 5) q1 (by decide)) hp
        · subst q1
          exact br_f (by decide) (br_t (by decide) hp)
      · unfold wpY_apply
        exact ys_tag (by omega) v1 (br_f (ne_I (b := 5) q2 (by omega) (by decide)) (ys_tag (by omega) v1 (br_f (ne_I (b := 6) q3 (by omega) (by decide)) (ys_tag (by omega) v1 (br_f (ne_I (b := 7) q4 (by omega) (by decide)) hq)))))
    rcases vK with w | w | w | w | w | ⟨rfl, rfl, rfl, w⟩ | ⟨rfl, rfl, rfl, w1, w2⟩ | ⟨rfl, rfl, rfl, w⟩ | w
    · exact Or.inl (none (by omega) (by omega) (by omega) (by omega))
    · exact Or.inl (none (by omega) (by omega) (by omega) (by omega))
    · exact Or.inl (none (by omega) (by omega) (by omega) (by omega))
    · exact Or.inl (none (by omega) (by omega) (by omega) (by omega))
    · exact Or.inl (none (by omega) (by omega) (by omega) (by omega))
    · obtain ⟨u', v', hX, hY, ht⟩ := ap_proc hk (by omega) (by omega) hac hf hf2 w harg
      exact Or.inl ⟨u', v', xa_5 hlt v1 hX, ya_app hlt (by decide) v1 (fun z => by omega) (fun z => by omega) hY, Or.inr ⟨hlt, ht⟩⟩
    · by_cases c : l ≤ 62
      · obtain ⟨u', v', hX, hY, ht⟩ := ap_built hk hbb (by omega) hac hf hf2 w1 c harg
        exact Or.inl ⟨u', v', xa_6 hlt v1 hX, ya_app hlt (by decide) v1 (fun z => by omega) (fun z => by omega) hY, Or.inr ⟨hlt, ht⟩⟩
      · subst hf
        by_cases c2 : l = 63
        · subst c2
          by_cases c3 : ac = 1
          · subst c3
            obtain ⟨u', v', hX, hY, hm, hA⟩ := ap_callcc hk (by omega) (by omega) hf2 (harg 0 (by decide))
            exact Or.inr ⟨u', v', _, xa_6 hlt v1 hX, ya_hand hlt (Or.inl rfl) hm hY, hlt, hA⟩
          · have hE := sm_E_R (e := 6) hk (by decide) (by decide)
            refine Or.inl ⟨_, _, xa_6 hlt v1 (fun post hp => xb_go (by decide) (by decide) (br_f (ne_I (b := 1) c3 (by omega) (by decide)) hp)), ya_nohand hlt (Or.inl rfl) (by decide : (6 : Int32) ≠ -1000000003) (fun q hq => ?_), Or.inl hE⟩
            exact br_f (by rw [zv_lo]; decide) (br_t rfl (br_f (ne_I (b := 1) c3 (by omega) (by decide)) hq))
        · have : l = 64 := by omega
          subst this
          by_cases c3 : ac = 2
          · subst c3
            rcases ap_apply hk (by omega) hf2 (harg 0 (by decide)) (harg 1 (by decide)) with ⟨u', v', hX, hY, hm, hA⟩ | ⟨u', v', hX, hY, hm, hE⟩
            · exact Or.inr ⟨u', v', _, xa_6 hlt v1 hX, ya_hand hlt (Or.inr rfl) hm hY, hlt, hA⟩
            · exact Or.inl ⟨u', v', xa_6 hlt v1 hX, ya_nohand hlt (Or.inr rfl) hm hY, Or.inl hE⟩
          · have hE := sm_E_R (e := 6) hk (by decide) (by decide)
            refine Or.inl ⟨_, _, xa_6 hlt v1 (fun post hp => xb_go (by decide) (by decide) (br_f (ne_I (b := 2) c3 (by omega) (by decide)) hp)), ya_nohand hlt (Or.inr rfl) (by decide : (6 : Int32) ≠ -1000000003) (fun q hq => ?_), Or.inl hE⟩
            exact br_t (by rw [zv_lo]; rfl) (br_f (by decide) (br_f (ne_I (b := 2) c3 (by omega) (by decide)) hq))
    · obtain ⟨u', v', hX, hY, ht⟩ := ap_cont hk hbb hac w harg
      exact Or.inl ⟨u', v', xa_7 hlt v1 hX, ya_app hlt (by decide) v1 (fun z => by omega) (fun z => by omega) hY, Or.inr ⟨hlt, ht⟩⟩
    · exact Or.inl (none (by omega) (by omega) (by omega) (by omega))
end
end
section
/-! the run, to its end -/
def xL (post : SX → Prop) (N i : Nat) (u : SX) : Prop := match u with
  | (x_textLength, x_pairCount, x_placeCount, x_procedureCount, x_continuationCount, x_frameCount, x_state, x_ending, x_form, x_environment, x_frame, x_value, x_applied, x_argumentCount, x_countedCount, x_consCount, x_entryCount, x_outputCount, x_itemCount, x_text, x_firsts, x_rests, x_placeNames, x_placeValues, x_placeOuters, x_procedureParts, x_procedurePlaces, x_continuationFrames, x_frameTasks, x_frameForms, x_frameValues, x_framePlaces, x_frameNexts, x_arguments, x_outputs, x_itemKinds, x_itemNumbers, x_openLists) => wX_perform_49 post N (nI i) x_textLength x_pairCount x_placeCount x_procedureCount x_continuationCount x_frameCount x_state x_ending x_form x_environment x_frame x_value x_applied x_argumentCount x_countedCount x_consCount x_entryCount x_outputCount x_itemCount x_text x_firsts x_rests x_placeNames x_placeValues x_placeOuters x_procedureParts x_procedurePlaces x_continuationFrames x_frameTasks x_frameForms x_frameValues x_framePlaces x_frameNexts x_arguments x_outputs x_itemKinds x_itemNumbers x_openLists
def yL (post : SY → Prop) (N : Nat) (v : SY) : Prop := match v with
  | (y_size, y_pairs, y_open, y_formCount, y_places, y_procedures, y_continuationCount, y_things, y_foundCount, y_argumentCount, y_value, y_form, y_wherein, y_next, y_working, y_ending, y_counts, y_made, y_entered, y_printCount, y_itemCount, y_text, y_firsts, y_rests, y_heads, y_lasts, y_globals, y_placeNames, y_placeValues, y_placeNexts, y_procedureForms, y_procedurePlaces, y_continuations, y_whats, y_withs, y_whereins, y_soFars, y_afters, y_found, y_foundNexts, y_arguments, y_prints, y_itemKinds, y_itemNumbers, y_pile) => wY_runText_129 post N y_size y_pairs y_open y_formCount y_places y_procedures y_continuationCount y_things y_foundCount y_argumentCount y_value y_form y_wherein y_next y_working y_ending y_counts y_made y_entered y_printCount y_itemCount y_text y_firsts y_rests y_heads y_lasts y_globals y_placeNames y_placeValues y_placeNexts y_procedureForms y_procedurePlaces y_continuations y_whats y_withs y_whereins y_soFars y_afters y_found y_foundNexts y_arguments y_prints y_itemKinds y_itemNumbers y_pile
def xEnd (post : SX → Prop) (u : SX) : Prop := match u with
  | (x_textLength, x_pairCount, x_placeCount, x_procedureCount, x_continuationCount, x_frameCount, x_state, x_ending, x_form, x_environment, x_frame, x_value, x_applied, x_argumentCount, x_countedCount, x_consCount, x_entryCount, x_outputCount, x_itemCount, x_text, x_firsts, x_rests, x_placeNames, x_placeValues, x_placeOuters, x_procedureParts, x_procedurePlaces, x_continuationFrames, x_frameTasks, x_frameForms, x_frameValues, x_framePlaces, x_frameNexts, x_arguments, x_outputs, x_itemKinds, x_itemNumbers, x_openLists) => wX_perform_102 post x_textLength x_pairCount x_placeCount x_procedureCount x_continuationCount x_frameCount x_state x_ending x_form x_environment x_frame x_value x_applied x_argumentCount x_countedCount x_consCount x_entryCount x_outputCount x_itemCount x_text x_firsts x_rests x_placeNames x_placeValues x_placeOuters x_procedureParts x_procedurePlaces x_continuationFrames x_frameTasks x_frameForms x_frameValues x_framePlaces x_frameNexts x_arguments x_outputs x_itemKinds x_itemNumbers x_openLists
def yEnd (post : SY → Prop) (v : SY) : Prop := match v with
  | (y_size, y_pairs, y_open, y_formCount, y_places, y_procedures, y_continuationCount, y_things, y_foundCount, y_argumentCount, y_value, y_form, y_wherein, y_next, y_working, y_ending, y_counts, y_made, y_entered, y_printCount, y_itemCount, y_text, y_firsts, y_rests, y_heads, y_lasts, y_globals, y_placeNames, y_placeValues, y_placeNexts, y_procedureForms, y_procedurePlaces, y_continuations, y_whats, y_withs, y_whereins, y_soFars, y_afters, y_found, y_foundNexts, y_arguments, y_prints, y_itemKinds, y_itemNumbers, y_pile) => wY_runText_173 post y_size y_pairs y_open y_formCount y_places y_procedures y_continuationCount y_things y_foundCount y_argumentCount y_value y_form y_wherein y_next y_working y_ending y_counts y_made y_entered y_printCount y_itemCount y_text y_firsts y_rests y_heads y_lasts y_globals y_placeNames y_placeValues y_placeNexts y_procedureForms y_procedurePlaces y_continuations y_whats y_withs y_whereins y_soFars y_afters y_found y_foundNexts y_arguments y_prints y_itemKinds y_itemNumbers y_pile
/-- ended with a value -/
def sm_D (T : Nat → Nat) (n : Nat) (u : SX) (v : SY) : Prop := ∃ M G px py pl np nc nf fo co cn et pc, sm_R T n M G px py pl np nc nf fo co cn et pc u v ∧ fo ≤ co ∧
  match u, v with
  | (x_textLength, x_pairCount, x_placeCount, x_procedureCount, x_continuationCount, x_frameCount, x_state, x_ending, x_form, x_environment, x_frame, x_value, x_applied, x_argumentCount, x_countedCount, x_consCount, x_entryCount, x_outputCount, x_itemCount, x_text, x_firsts, x_rests, x_placeNames, x_placeValues, x_placeOuters, x_procedureParts, x_procedurePlaces, x_continuationFrames, x_frameTasks, x_frameForms, x_frameValues, x_framePlaces, x_frameNexts, x_arguments, x_outputs, x_itemKinds, x_itemNumbers, x_openLists), (y_size, y_pairs, y_open, y_formCount, y_places, y_procedures, y_continuationCount, y_things, y_foundCount, y_argumentCount, y_value, y_form, y_wherein, y_next, y_working, y_ending, y_counts, y_made, y_entered, y_printCount, y_itemCount, y_text, y_firsts, y_rests, y_heads, y_lasts, y_globals, y_placeNames, y_placeValues, y_placeNexts, y_procedureForms, y_procedurePlaces, y_continuations, y_whats, y_withs, y_whereins, y_soFars, y_afters, y_found, y_foundNexts, y_arguments, y_prints, y_itemKinds, y_itemNumbers, y_pile) => x_ending = 0 ∧ y_ending = -1000000003 ∧ zv_V M np nc y_value x_value
section
variable {T : Nat → Nat} {n : Nat}
theorem sm_E_x {u : SX} {v : SY} (h : sm_E T n u v) {post : SX → Prop} {N i : Nat} (hi : i < 1000000) (hp : xEnd post u) : xL post (N + 1) i u := by
  obtain ⟨x_textLength, x_pairCount, x_placeCount, x_procedureCount, x_continuationCount, x_frameCount, x_state, x_ending, x_form, x_environment, x_frame, x_value, x_applied, x_argumentCount, x_countedCount, x_consCount, x_entryCount, x_outputCount, x_itemCount, x_text, x_firsts, x_rests, x_placeNames, x_placeValues, x_placeOuters, x_procedureParts, x_procedurePlaces, x_continuationFrames, x_frameTasks, x_frameForms, x_frameValues, x_framePlaces, x_frameNexts, x_arguments, x_outputs, x_itemKinds, x_itemNumbers, x_openLists⟩ := u
  obtain ⟨y_size, y_pairs, y_open, y_formCount, y_places, y_procedures, y_continuationCount, y_things, y_foundCount, y_argumentCount, y_value, y_form, y_wherein, y_next, y_working, y_ending, y_counts, y_made, y_entered, y_printCount, y_itemCount, y_text, y_firsts, y_rests, y_heads, y_lasts, y_globals, y_placeNames, y_placeValues, y_placeNexts, y_procedureForms, y_procedurePlaces, y_continuations, y_whats, y_withs, y_whereins, y_soFars, y_afters, y_found, y_foundNexts, y_arguments, y_prints, y_itemKinds, y_itemNumbers, y_pile⟩ := v
  obtain ⟨e, pc, _, h1, h2, _, h3, _⟩ := h
  subst h3
  refine br_f (nI_ge (b := 1000000) hi (by decide)) (br_f ?_ hp)
  exact ap_m1 (by omega)
theorem sm_E_y {u : SX} {v : SY} (h : sm_E T n u v) {post : SY → Prop} {N : Nat} (hp : yEnd post v) : yL post (N + 1) v := by
  obtain ⟨x_textLength, x_pairCount, x_placeCount, x_procedureCount, x_continuationCount, x_frameCount, x_state, x_ending, x_form, x_environment, x_frame, x_value, x_applied, x_argumentCount, x_countedCount, x_consCount, x_entryCount, x_outputCount, x_itemCount, x_text, x_firsts, x_rests, x_placeNames, x_placeValues, x_placeOuters, x_procedureParts, x_procedurePlaces, x_continuationFrames, x_frameTasks, x_frameForms, x_frameValues, x_framePlaces, x_frameNexts, x_arguments, x_outputs, x_itemKinds, x_itemNumbers, x_openLists⟩ := u
  obtain ⟨y_size, y_pairs, y_open, y_formCount, y_places, y_procedures, y_continuationCount, y_things, y_foundCount, y_argumentCount, y_value, y_form, y_wherein, y_next, y_working, y_ending, y_counts, y_made, y_entered, y_printCount, y_itemCount, y_text, y_firsts, y_rests, y_heads, y_lasts, y_globals, y_placeNames, y_placeValues, y_placeNexts, y_procedureForms, y_procedurePlaces, y_continuations, y_whats, y_withs, y_whereins, y_soFars, y_afters, y_found, y_foundNexts, y_arguments, y_prints, y_itemKinds, y_itemNumbers, y_pile⟩ := v
  obtain ⟨e, pc, _, h1, h2, _, _, h3, _⟩ := h
  subst h3
  refine br_f (fun z => ?_) hp
  have := nI_pos (n := e) (by omega)
  rw [z] at this
  exact this (by decide)
/-- the steps of an application -/
theorem st_App : ∀ d co g u v, 600 - co = d → co ≤ 600 → sm_A T n co g u v → ∃ u' v' co' k, (sm_E T n u' v' ∨ (co < co' ∧ co' ≤ 600 ∧ sm_to T n co' u' v')) ∧ k ≤ 601 - co ∧
    (∀ (post : SX → Prop) (N i : Nat), i + k ≤ 999999 → xL post N (i + k) u' → xL post (N + k) i u) ∧ (∀ post : SY → Prop, post v' → ∃ f, yA_loop post f g v) := by
  intro d
  induction d with
  | zero =>
    intro co g u v hd hco h
    obtain ⟨x_textLength, x_pairCount, x_placeCount, x_procedureCount, x_continuationCount, x_frameCount, x_state, x_ending, x_form, x_environment, x_frame, x_value, x_applied, x_argumentCount, x_countedCount, x_consCount, x_entryCount, x_outputCount, x_itemCount, x_text, x_firsts, x_rests, x_placeNames, x_placeValues, x_placeOuters, x_procedureParts, x_procedurePlaces, x_continuationFrames, x_frameTasks, x_frameForms, x_frameValues, x_framePlaces, x_frameNexts, x_arguments, x_outputs, x_itemKinds, x_itemNumbers, x_openLists⟩ := u
    obtain ⟨y_size, y_pairs, y_open, y_formCount, y_places, y_procedures, y_continuationCount, y_things, y_foundCount, y_argumentCount, y_value, y_form, y_wherein, y_next, y_working, y_ending, y_counts, y_made, y_entered, y_printCount, y_itemCount, y_text, y_firsts, y_rests, y_heads, y_lasts, y_globals, y_placeNames, y_placeValues, y_placeNexts, y_procedureForms, y_procedurePlaces, y_continuations, y_whats, y_withs, y_whereins, y_soFars, y_afters, y_found, y_foundNexts, y_arguments, y_prints, y_itemKinds, y_itemNumbers, y_pile⟩ := v
    have hs : x_state = 1 ∧ x_ending = -1 := by
      obtain ⟨M, G, px, py, pl, np, nc, nf, fo, cn, et, pc, ac, _, _, s1, s2, _⟩ := h
      exact ⟨s1, s2⟩
    rcases st_A h with ⟨u', v', hX, hY, hr⟩ | ⟨u', v', g', _, _, hlt, _⟩
    · refine ⟨u', v', co + 1, 1, hr.elim Or.inl (fun z => Or.inr ⟨by omega, by omega, z.2⟩), by omega, fun post N i hi hp => ?_, fun post hp => ⟨2, hY post 0 hp⟩⟩
      refine br_f (nI_ge (b := 1000000) (by omega) (by decide)) (br_t hs.2 (br_f (by rw [hs.1]; decide) (br_t hs.1 (hX _ ?_))))
      obtain ⟨x_textLength, x_pairCount, x_placeCount, x_procedureCount, x_continuationCount, x_frameCount, x_state, x_ending, x_form, x_environment, x_frame, x_value, x_applied, x_argumentCount, x_countedCount, x_consCount, x_entryCount, x_outputCount, x_itemCount, x_text, x_firsts, x_rests, x_placeNames, x_placeValues, x_placeOuters, x_procedureParts, x_procedurePlaces, x_continuationFrames, x_frameTasks, x_frameForms, x_frameValues, x_framePlaces, x_frameNexts, x_arguments, x_outputs, x_itemKinds, x_itemNumbers, x_openLists⟩ := u'
      exact nm_r (nI_1 i) hp
    · omega
  | succ d ih =>
    intro co g u v hd hco h
    obtain ⟨x_textLength, x_pairCount, x_placeCount, x_procedureCount, x_continuationCount, x_frameCount, x_state, x_ending, x_form, x_environment, x_frame, x_value, x_applied, x_argumentCount, x_countedCount, x_consCount, x_entryCount, x_outputCount, x_itemCount, x_text, x_firsts, x_rests, x_placeNames, x_placeValues, x_placeOuters, x_procedureParts, x_procedurePlaces, x_continuationFrames, x_frameTasks, x_frameForms, x_frameValues, x_framePlaces, x_frameNexts, x_arguments, x_outputs, x_itemKinds, x_itemNumbers, x_openLists⟩ := u
    obtain ⟨y_size, y_pairs, y_open, y_formCount, y_places, y_procedures, y_continuationCount, y_things, y_foundCount, y_argumentCount, y_value, y_form, y_wherein, y_next, y_working, y_ending, y_counts, y_made, y_entered, y_printCount, y_itemCount, y_text, y_firsts, y_rests, y_heads, y_lasts, y_globals, y_placeNames, y_placeValues, y_placeNexts, y_procedureForms, y_procedurePlaces, y_continuations, y_whats, y_withs, y_whereins, y_soFars, y_afters, y_found, y_foundNexts, y_arguments, y_prints, y_itemKinds, y_itemNumbers, y_pile⟩ := v
    have hs : x_state = 1 ∧ x_ending = -1 := by
      obtain ⟨M, G, px, py, pl, np, nc, nf, fo, cn, et, pc, ac, _, _, s1, s2, _⟩ := h
      exact ⟨s1, s2⟩
    have step : ∀ u', (∀ post : SX → Prop, post u' → wpX_applyNow post (x_textLength, x_pairCount, x_placeCount, x_procedureCount, x_continuationCount, x_frameCount, x_state, x_ending, x_form, x_environment, x_frame, x_value, x_applied, x_argumentCount, x_countedCount, x_consCount, x_entryCount, x_outputCount, x_itemCount, x_text, x_firsts, x_rests, x_placeNames, x_placeValues, x_placeOuters, x_procedureParts, x_procedurePlaces, x_continuationFrames, x_frameTasks, x_frameForms, x_frameValues, x_framePlaces, x_frameNexts, x_arguments, x_outputs, x_itemKinds, x_itemNumbers, x_openLists)) → ∀ (post : SX → Prop) (N i : Nat), i < 1000000 → xL post N (i + 1) u' → xL post (N + 1) i (x_textLength, x_pairCount, x_placeCount, x_procedureCount, x_continuationCount, x_frameCount, x_state, x_ending, x_form, x_environment, x_frame, x_value, x_applied, x_argumentCount, x_countedCount, x_consCount, x_entryCount, x_outputCount, x_itemCount, x_text, x_firsts, x_rests, x_placeNames, x_placeValues, x_placeOuters, x_procedureParts, x_procedurePlaces, x_continuationFrames, x_frameTasks, x_frameForms, x_frameValues, x_framePlaces, x_frameNexts, x_arguments, x_outputs, x_itemKinds, x_itemNumbers, x_openLists) := by
      intro u' hX post N i hi hp
      refine br_f (nI_ge (b := 1000000) hi (by decide)) (br_t hs.2 (br_f (by rw [hs.1]; decide) (br_t hs.1 (hX _ ?_))))
      obtain ⟨x_textLength, x_pairCount, x_placeCount, x_procedureCount, x_continuationCount, x_frameCount, x_state, x_ending, x_form, x_environment, x_frame, x_value, x_applied, x_argumentCount, x_countedCount, x_consCount, x_entryCount, x_outputCount, x_itemCount, x_text, x_firsts, x_rests, x_placeNames, x_placeValues, x_placeOuters, x_procedureParts, x_procedurePlaces, x_continuationFrames, x_frameTasks, x_frameForms, x_frameValues, x_framePlaces, x_frameNexts, x_arguments, x_outputs, x_itemKinds, x_itemNumbers, x_openLists⟩ := u'
      exact nm_r (nI_1 i) hp
    rcases st_A h with ⟨u', v', hX, hY, hr⟩ | ⟨u', v', g', hX, hY, hlt, hA⟩
    · exact ⟨u', v', co + 1, 1, hr.elim Or.inl (fun z => Or.inr ⟨by omega, by omega, z.2⟩), by omega, fun post N i hi hp => step u' hX post N i (by omega) hp, fun post hp => ⟨2, hY post 0 hp⟩⟩
    · obtain ⟨u2, v2, co', k, hr, hk, hX2, hY2⟩ := ih (co + 1) g' u' v' (by omega) (by omega) hA
      refine ⟨u2, v2, co', k + 1, hr.elim Or.inl (fun z => Or.inr ⟨by omega, z.2.1, z.2.2⟩), by omega, fun post N i hi hp => ?_, fun post hp => ?_⟩
      · have := hX2 post N (i + 1) (by omega) (by rw [show i + 1 + k = i + (k + 1) by omega]; exact hp)
        exact step u' hX post (N + k) i (by omega) this
      · obtain ⟨f, hf⟩ := hY2 post hp
        exact ⟨f + 1, hY post f hf⟩
theorem st_main : ∀ μ co u v, (sm_F T n co u v ∧ μ = (601 - co) * 1500 ∨ ∃ f, f ≤ 600 ∧ sm_V T n co f u v ∧ μ = (601 - co) * 1500 + f + 1) →
    ∃ u' v', (sm_E T n u' v' ∨ sm_D T n u' v') ∧ (∀ (post : SX → Prop) (N i : Nat), μ + 1 < N → i + μ ≤ 999990 → xEnd post u' → xL post N i u) ∧ (∀ (post : SY → Prop) (N : Nat), μ + 1 < N → yEnd post v' → yL post N v) := by
  intro μ
  induction μ using Nat.strongRecOn with
  | ind μ ih =>
    intro co u v h
    -- the target of a step, by the induction
    have go : ∀ co' u1 v1, co < co' → co' ≤ 600 → (601 - co) * 1500 ≤ μ → sm_to T n co' u1 v1 → ∃ u' v', (sm_E T n u' v' ∨ sm_D T n u' v') ∧ (∀ (post : SX → Prop) (N i : Nat), μ < N + 850 → i + μ ≤ 999990 + 850 → i < 999990 → xEnd post u' → xL post N i u1) ∧ (∀ (post : SY → Prop) (N : Nat), μ < N + 850 → yEnd post v' → yL post N v1) := by
      intro co' u1 v1 h1 h2 h3 ht
      rcases ht with hE | hF | ⟨f, hf, hV⟩
      · refine ⟨u1, v1, Or.inl hE, fun post N i hN _ hi hp => ?_, fun post N hN hp => ?_⟩
        · obtain ⟨N, rfl⟩ : ∃ m, N = m + 1 := ⟨N - 1, by omega⟩
          exact sm_E_x hE (by omega) hp
        · obtain ⟨N, rfl⟩ : ∃ m, N = m + 1 := ⟨N - 1, by omega⟩
          exact sm_E_y hE hp
      · obtain ⟨u', v', hr, hX, hY⟩ := ih ((601 - co') * 1500) (by omega) co' u1 v1 (Or.inl ⟨hF, rfl⟩)
        exact ⟨u', v', hr, fun post N i hN hi _ hp => hX post N i (by omega) (by omega) hp, fun post N hN hp => hY post N (by omega) hp⟩
      · obtain ⟨u', v', hr, hX, hY⟩ := ih ((601 - co') * 1500 + f + 1) (by omega) co' u1 v1 (Or.inr ⟨f, by omega, hV, rfl⟩)
        exact ⟨u', v', hr, fun post N i hN hi _ hp => hX post N i (by omega) (by omega) hp, fun post N hN hp => hY post N (by omega) hp⟩
    obtain ⟨x_textLength, x_pairCount, x_placeCount, x_procedureCount, x_continuationCount, x_frameCount, x_state, x_ending, x_form, x_environment, x_frame, x_value, x_applied, x_argumentCount, x_countedCount, x_consCount, x_entryCount, x_outputCount, x_itemCount, x_text, x_firsts, x_rests, x_placeNames, x_placeValues, x_placeOuters, x_procedureParts, x_procedurePlaces, x_continuationFrames, x_frameTasks, x_frameForms, x_frameValues, x_framePlaces, x_frameNexts, x_arguments, x_outputs, x_itemKinds, x_itemNumbers, x_openLists⟩ := u
    obtain ⟨y_size, y_pairs, y_open, y_formCount, y_places, y_procedures, y_continuationCount, y_things, y_foundCount, y_argumentCount, y_value, y_form, y_wherein, y_next, y_working, y_ending, y_counts, y_made, y_entered, y_printCount, y_itemCount, y_text, y_firsts, y_rests, y_heads, y_lasts, y_globals, y_placeNames, y_placeValues, y_placeNexts, y_procedureForms, y_procedurePlaces, y_continuations, y_whats, y_withs, y_whereins, y_soFars, y_afters, y_found, y_foundNexts, y_arguments, y_prints, y_itemKinds, y_itemNumbers, y_pile⟩ := v
    rcases h with ⟨hF, hμ⟩ | ⟨f, hf6, hV, hμ⟩
    · have hs : x_state = 0 ∧ x_ending = -1 ∧ y_ending = -1000000003 ∧ y_working = 1 ∧ co ≤ 600 := by
        obtain ⟨M, G, px, py, pl, np, nc, nf, fo, cn, et, pc, j, hr, _, s1, s2, s3, s4, _⟩ := hF
        exact ⟨s1, s2, s3, s4, hr.2.2.2.1.1⟩
      obtain ⟨u1, v1, hX, hY, hr⟩ := st_F hF
      have stepX : ∀ (post : SX → Prop) (N i : Nat), i < 1000000 → xL post N (i + 1) u1 → xL post (N + 1) i (x_textLength, x_pairCount, x_placeCount, x_procedureCount, x_continuationCount, x_frameCount, x_state, x_ending, x_form, x_environment, x_frame, x_value, x_applied, x_argumentCount, x_countedCount, x_consCount, x_entryCount, x_outputCount, x_itemCount, x_text, x_firsts, x_rests, x_placeNames, x_placeValues, x_placeOuters, x_procedureParts, x_procedurePlaces, x_continuationFrames, x_frameTasks, x_frameForms, x_frameValues, x_framePlaces, x_frameNexts, x_arguments, x_outputs, x_itemKinds, x_itemNumbers, x_openLists) := by
        intro post N i hi hp
        refine br_f (nI_ge (b := 1000000) hi (by decide)) (br_t hs.2.1 (br_t hs.1 (hX _ ?_)))
        obtain ⟨x_textLength, x_pairCount, x_placeCount, x_procedureCount, x_continuationCount, x_frameCount, x_state, x_ending, x_form, x_environment, x_frame, x_value, x_applied, x_argumentCount, x_countedCount, x_consCount, x_entryCount, x_outputCount, x_itemCount, x_text, x_firsts, x_rests, x_placeNames, x_placeValues, x_placeOuters, x_procedureParts, x_procedurePlaces, x_continuationFrames, x_frameTasks, x_frameForms, x_frameValues, x_framePlaces, x_frameNexts, x_arguments, x_outputs, x_itemKinds, x_itemNumbers, x_openLists⟩ := u1
        exact nm_r (nI_1 i) hp
      have stepY : ∀ (post : SY → Prop) (N : Nat), yL post N v1 → yL post (N + 1) (y_size, y_pairs, y_open, y_formCount, y_places, y_procedures, y_continuationCount, y_things, y_foundCount, y_argumentCount, y_value, y_form, y_wherein, y_next, y_working, y_ending, y_counts, y_made, y_entered, y_printCount, y_itemCount, y_text, y_firsts, y_rests, y_heads, y_lasts, y_globals, y_placeNames, y_placeValues, y_placeNexts, y_procedureForms, y_procedurePlaces, y_continuations, y_whats, y_withs, y_whereins, y_soFars, y_afters, y_found, y_foundNexts, y_arguments, y_prints, y_itemKinds, y_itemNumbers, y_pile) := by
        intro post N hp
        have hw : ¬ y_working = 0 := by rw [hs.2.2.2.1]; decide
        refine br_t hs.2.2.1 (br_f hw (br_f hw (hY _ ?_)))
        obtain ⟨y_size, y_pairs, y_open, y_formCount, y_places, y_procedures, y_continuationCount, y_things, y_foundCount, y_argumentCount, y_value, y_form, y_wherein, y_next, y_working, y_ending, y_counts, y_made, y_entered, y_printCount, y_itemCount, y_text, y_firsts, y_rests, y_heads, y_lasts, y_globals, y_placeNames, y_placeValues, y_placeNexts, y_procedureForms, y_procedurePlaces, y_continuations, y_whats, y_withs, y_whereins, y_soFars, y_afters, y_found, y_foundNexts, y_arguments, y_prints, y_itemKinds, y_itemNumbers, y_pile⟩ := v1
        exact hp
      have hfin : ∃ u' v', (sm_E T n u' v' ∨ sm_D T n u' v') ∧ (∀ (post : SX → Prop) (N i : Nat), μ < N + 850 → i + μ ≤ 999990 + 850 → i < 999990 → xEnd post u' → xL post N i u1) ∧ (∀ (post : SY → Prop) (N : Nat), μ < N + 850 → yEnd post v' → yL post N v1) := by
        rcases hr with hE | ⟨hlt, ht⟩
        · refine ⟨u1, v1, Or.inl hE, fun post N i hN _ hi hp => ?_, fun post N hN hp => ?_⟩
          · obtain ⟨N, rfl⟩ : ∃ m, N = m + 1 := ⟨N - 1, by omega⟩
            exact sm_E_x hE (by omega) hp
          · obtain ⟨N, rfl⟩ : ∃ m, N = m + 1 := ⟨N - 1, by omega⟩
            exact sm_E_y hE hp
        · exact go (co + 1) u1 v1 (by omega) (by omega) (by omega) ht
      obtain ⟨u', v', hr', hX', hY'⟩ := hfin
      refine ⟨u', v', hr', fun post N i hN hi hp => ?_, fun post N hN hp => ?_⟩
      · obtain ⟨N, rfl⟩ : ∃ m, N = m + 1 := ⟨N - 1, by omega⟩
        exact stepX post N i (by omega) (hX' post N (i + 1) (by omega) (by omega) (by omega) hp)
      · obtain ⟨N, rfl⟩ : ∃ m, N = m + 1 := ⟨N - 1, by omega⟩
        exact stepY post N (hY' post N (by omega) hp)
    · have hs : x_state = 2 ∧ x_ending = -1 ∧ y_ending = -1000000003 ∧ y_working = 0 ∧ co ≤ 600 := by
        obtain ⟨M, G, px, py, pl, np, nc, nf, fo, cn, et, pc, hr, _, s1, s2, s3, s4, _⟩ := hV
        exact ⟨s1, s2, s3, s4, hr.2.2.2.1.1⟩
      have stepX : ∀ u1, (∀ post : SX → Prop, post u1 → wpX_goOn post (x_textLength, x_pairCount, x_placeCount, x_procedureCount, x_continuationCount, x_frameCount, x_state, x_ending, x_form, x_environment, x_frame, x_value, x_applied, x_argumentCount, x_countedCount, x_consCount, x_entryCount, x_outputCount, x_itemCount, x_text, x_firsts, x_rests, x_placeNames, x_placeValues, x_placeOuters, x_procedureParts, x_procedurePlaces, x_continuationFrames, x_frameTasks, x_frameForms, x_frameValues, x_framePlaces, x_frameNexts, x_arguments, x_outputs, x_itemKinds, x_itemNumbers, x_openLists)) → ∀ (post : SX → Prop) (N i : Nat), i < 1000000 → xL post N (i + 1) u1 → xL post (N + 1) i (x_textLength, x_pairCount, x_placeCount, x_procedureCount, x_continuationCount, x_frameCount, x_state, x_ending, x_form, x_environment, x_frame, x_value, x_applied, x_argumentCount, x_countedCount, x_consCount, x_entryCount, x_outputCount, x_itemCount, x_text, x_firsts, x_rests, x_placeNames, x_placeValues, x_placeOuters, x_procedureParts, x_procedurePlaces, x_continuationFrames, x_frameTasks, x_frameForms, x_frameValues, x_framePlaces, x_frameNexts, x_arguments, x_outputs, x_itemKinds, x_itemNumbers, x_openLists) := by
        intro u1 hX post N i hi hp
        refine br_f (nI_ge (b := 1000000) hi (by decide)) (br_t hs.2.1 (br_f (by rw [hs.1]; decide) (br_f (by rw [hs.1]; decide) (hX _ ?_))))
        obtain ⟨x_textLength, x_pairCount, x_placeCount, x_procedureCount, x_continuationCount, x_frameCount, x_state, x_ending, x_form, x_environment, x_frame, x_value, x_applied, x_argumentCount, x_countedCount, x_consCount, x_entryCount, x_outputCount, x_itemCount, x_text, x_firsts, x_rests, x_placeNames, x_placeValues, x_placeOuters, x_procedureParts, x_procedurePlaces, x_continuationFrames, x_frameTasks, x_frameForms, x_frameValues, x_framePlaces, x_frameNexts, x_arguments, x_outputs, x_itemKinds, x_itemNumbers, x_openLists⟩ := u1
        exact nm_r (nI_1 i) hp
      by_cases hf0 : f = 0
      · subst hf0
        obtain ⟨M, G, px, py, pl, np, nc, nf, fo, cn, et, pc, hr, hb, s1, s2, s3, s4, hW, s5, s6⟩ := hV
        have hn : y_next = -1 := by
          rcases s6 with z | ⟨m, _, z, _⟩
          · exact z.2
          · omega
        refine ⟨(x_textLength, x_pairCount, x_placeCount, x_procedureCount, x_continuationCount, x_frameCount, x_state, 0, x_form, x_environment, x_frame, x_value, x_applied, x_argumentCount, x_countedCount, x_consCount, x_entryCount, x_outputCount, x_itemCount, x_text, x_firsts, x_rests, x_placeNames, x_placeValues, x_placeOuters, x_procedureParts, x_procedurePlaces, x_continuationFrames, x_frameTasks, x_frameForms, x_frameValues, x_framePlaces, x_frameNexts, x_arguments, x_outputs, x_itemKinds, x_itemNumbers, x_openLists), (y_size, y_pairs, y_open, y_formCount, y_places, y_procedures, y_continuationCount, y_things, y_foundCount, y_argumentCount, y_value, y_form, y_wherein, y_next, y_working, y_ending, y_counts, y_made, y_entered, y_printCount, y_itemCount, y_text, y_firsts, y_rests, y_heads, y_lasts, y_globals, y_placeNames, y_placeValues, y_placeNexts, y_procedureForms, y_procedurePlaces, y_continuations, y_whats, y_withs, y_whereins, y_soFars, y_afters, y_found, y_foundNexts, y_arguments, y_prints, y_itemKinds, y_itemNumbers, y_pile), Or.inr ⟨M, G, px, py, pl, np, nc, nf, fo, co, cn, et, pc, rk_ig hr, hb.1, rfl, s3, hW⟩, fun post N i hN hi hp => ?_, fun post N hN hp => ?_⟩
        · obtain ⟨N, rfl⟩ : ∃ m, N = m + 1 + 1 := ⟨N - 2, by omega⟩
          refine stepX _ (fun q hq => br_t (by rw [s5, hn]) hq) post (N + 1) i (by omega) ?_
          exact br_f (nI_ge (b := 1000000) (by omega) (by decide)) (br_f (by decide) hp)
        · obtain ⟨N, rfl⟩ : ∃ m, N = m + 1 := ⟨N - 1, by omega⟩
          exact br_t s3 (br_t s4 (br_t (by rw [hn]; decide) hp))
      · have hnn : ¬ y_next < 0 := by
          obtain ⟨M, G, px, py, pl, np, nc, nf, fo, cn, et, pc, hr, hb, s1, s2, s3, s4, hW, s5, s6⟩ := hV
          rcases s6 with z | ⟨m, m1, _, z⟩
          · exact absurd z.1 hf0
          · rw [z]; exact nI_pos (by omega)
        have stepY : ∀ (post : SY → Prop) (N : Nat), wpY_goOn (fun u => match u with | (y_size, y_pairs, y_open, y_formCount, y_places, y_procedures, y_continuationCount, y_things, y_foundCount, y_argumentCount, y_value, y_form, y_wherein, y_next, y_working, y_ending, y_counts, y_made, y_entered, y_printCount, y_itemCount, y_text, y_firsts, y_rests, y_heads, y_lasts, y_globals, y_placeNames, y_placeValues, y_placeNexts, y_procedureForms, y_procedurePlaces, y_continuations, y_whats, y_withs, y_whereins, y_soFars, y_afters, y_found, y_foundNexts, y_arguments, y_prints, y_itemKinds, y_itemNumbers, y_pile) => wY_runText_129 post N y_size y_pairs y_open y_formCount y_places y_procedures y_continuationCount y_things y_foundCount y_argumentCount y_value y_form y_wherein y_next y_working y_ending y_counts y_made y_entered y_printCount y_itemCount y_text y_firsts y_rests y_heads y_lasts y_globals y_placeNames y_placeValues y_placeNexts y_procedureForms y_procedurePlaces y_continuations y_whats y_withs y_whereins y_soFars y_afters y_found y_foundNexts y_arguments y_prints y_itemKinds y_itemNumbers y_pile) (y_size, y_pairs, y_open, y_formCount, y_places, y_procedures, y_continuationCount, y_things, y_foundCount, y_argumentCount, y_value, y_form, y_wherein, y_next, y_working, y_ending, y_counts, y_made, y_entered, y_printCount, y_itemCount, y_text, y_firsts, y_rests, y_heads, y_lasts, y_globals, y_placeNames, y_placeValues, y_placeNexts, y_procedureForms, y_procedurePlaces, y_continuations, y_whats, y_withs, y_whereins, y_soFars, y_afters, y_found, y_foundNexts, y_arguments, y_prints, y_itemKinds, y_itemNumbers, y_pile) → yL post (N + 1) (y_size, y_pairs, y_open, y_formCount, y_places, y_procedures, y_continuationCount, y_things, y_foundCount, y_argumentCount, y_value, y_form, y_wherein, y_next, y_working, y_ending, y_counts, y_made, y_entered, y_printCount, y_itemCount, y_text, y_firsts, y_rests, y_heads, y_lasts, y_globals, y_placeNames, y_placeValues, y_placeNexts, y_procedureForms, y_procedurePlaces, y_continuations, y_whats, y_withs, y_whereins, y_soFars, y_afters, y_found, y_foundNexts, y_arguments, y_prints, y_itemKinds, y_itemNumbers, y_pile) := fun post N hp => br_t hs.2.2.1 (br_t hs.2.2.2.1 (br_f hnn (br_t hs.2.2.2.1 hp)))
        rcases st_V hV hf0 with ⟨u1, v1, hX, hY, hr⟩ | ⟨u1, v1, g, hX, hY, hA⟩
        · have hfin : ∃ u' v', (sm_E T n u' v' ∨ sm_D T n u' v') ∧ (∀ (post : SX → Prop) (N i : Nat), μ < N → i + μ ≤ 999991 → i < 999991 → xEnd post u' → xL post N i u1) ∧ (∀ (post : SY → Prop) (N : Nat), μ < N → yEnd post v' → yL post N v1) := by
            rcases hr with hE | hF | ⟨f', hf', hV'⟩
            · refine ⟨u1, v1, Or.inl hE, fun post N i hN _ hi hp => ?_, fun post N hN hp => ?_⟩
              · obtain ⟨N, rfl⟩ : ∃ m, N = m + 1 := ⟨N - 1, by omega⟩
                exact sm_E_x hE (by omega) hp
              · obtain ⟨N, rfl⟩ : ∃ m, N = m + 1 := ⟨N - 1, by omega⟩
                exact sm_E_y hE hp
            · obtain ⟨u', v', hr, hX', hY'⟩ := ih ((601 - co) * 1500) (by omega) co u1 v1 (Or.inl ⟨hF, rfl⟩)
              exact ⟨u', v', hr, fun post N i hN hi _ hp => hX' post N i (by omega) (by omega) hp, fun post N hN hp => hY' post N (by omega) hp⟩
            · obtain ⟨u', v', hr, hX', hY'⟩ := ih ((601 - co) * 1500 + f' + 1) (by omega) co u1 v1 (Or.inr ⟨f', by omega, hV', rfl⟩)
              exact ⟨u', v', hr, fun post N i hN hi _ hp => hX' post N i (by omega) (by omega) hp, fun post N hN hp => hY' post N (by omega) hp⟩
          obtain ⟨u', v', hr', hX', hY'⟩ := hfin
          refine ⟨u', v', hr', fun post N i hN hi hp => ?_, fun post N hN hp => ?_⟩
          · obtain ⟨N, rfl⟩ : ∃ m, N = m + 1 := ⟨N - 1, by omega⟩
            exact stepX u1 hX post N i (by omega) (hX' post N (i + 1) (by omega) (by omega) (by omega) hp)
          · obtain ⟨N, rfl⟩ : ∃ m, N = m + 1 := ⟨N - 1, by omega⟩
            refine stepY post N (hY _ ?_)
            have := hY' post N (by omega) hp
            obtain ⟨y_size, y_pairs, y_open, y_formCount, y_places, y_procedures, y_continuationCount, y_things, y_foundCount, y_argumentCount, y_value, y_form, y_wherein, y_next, y_working, y_ending, y_counts, y_made, y_entered, y_printCount, y_itemCount, y_text, y_firsts, y_rests, y_heads, y_lasts, y_globals, y_placeNames, y_placeValues, y_placeNexts, y_procedureForms, y_procedurePlaces, y_continuations, y_whats, y_withs, y_whereins, y_soFars, y_afters, y_found, y_foundNexts, y_arguments, y_prints, y_itemKinds, y_itemNumbers, y_pile⟩ := v1
            exact this
        · obtain ⟨u2, v2, co', k, hr, hk, hX2, hY2⟩ := st_App _ co g u1 v1 rfl hs.2.2.2.2 hA
          have hfin : ∃ u' v', (sm_E T n u' v' ∨ sm_D T n u' v') ∧ (∀ (post : SX → Prop) (N i : Nat), μ < N + 850 → i + μ ≤ 999990 + 850 → i < 999990 → xEnd post u' → xL post N i u2) ∧ (∀ (post : SY → Prop) (N : Nat), μ < N + 850 → yEnd post v' → yL post N v2) := by
            rcases hr with hE | ⟨h1, h2, ht⟩
            · refine ⟨u2, v2, Or.inl hE, fun post N i hN _ hi hp => ?_, fun post N hN hp => ?_⟩
              · obtain ⟨N, rfl⟩ : ∃ m, N = m + 1 := ⟨N - 1, by omega⟩
                exact sm_E_x hE (by omega) hp
              · obtain ⟨N, rfl⟩ : ∃ m, N = m + 1 := ⟨N - 1, by omega⟩
                exact sm_E_y hE hp
            · exact go co' u2 v2 h1 h2 (by omega) ht
          obtain ⟨u', v', hr', hX', hY'⟩ := hfin
          refine ⟨u', v', hr', fun post N i hN hi hp => ?_, fun post N hN hp => ?_⟩
          · obtain ⟨N, rfl⟩ : ∃ m, N = m + k + 1 := ⟨N - k - 1, by omega⟩
            exact stepX u1 hX post (N + k) i (by omega) (hX2 post N (i + 1) (by omega) (hX' post N (i + 1 + k) (by omega) (by omega) (by omega) hp))
          · obtain ⟨N, rfl⟩ : ∃ m, N = m + 1 := ⟨N - 1, by omega⟩
            refine stepY post N (hY _ (fun q hq => hY2 q (hq _ ?_)))
            have := hY' post N (by omega) hp
            obtain ⟨y_size, y_pairs, y_open, y_formCount, y_places, y_procedures, y_continuationCount, y_things, y_foundCount, y_argumentCount, y_value, y_form, y_wherein, y_next, y_working, y_ending, y_counts, y_made, y_entered, y_printCount, y_itemCount, y_text, y_firsts, y_rests, y_heads, y_lasts, y_globals, y_placeNames, y_placeValues, y_placeNexts, y_procedureForms, y_procedurePlaces, y_continuations, y_whats, y_withs, y_whereins, y_soFars, y_afters, y_found, y_foundNexts, y_arguments, y_prints, y_itemKinds, y_itemNumbers, y_pile⟩ := v2
            exact this
end
end
section
/-! the value is written: single steps of both sides -/
def wr_u (K : Nat → Int32) (c : Nat) (a : Int32) : Nat → Int32 := if c < 120 then upd K c a else K
def wr_k (t : Nat) : Int32 := if t = 0 then 0 else if t = 1 then 5 else if t = 4 then 1 else if t = 8 then 7 else 6
def wr_n (t k : Nat) : Int32 := if t = 0 ∨ t = 1 ∨ t = 4 then nI k else 0
section
variable {x_textLength : Int32} {x_pairCount : Int32} {x_placeCount : Int32} {x_procedureCount : Int32} {x_continuationCount : Int32} {x_frameCount : Int32} {x_state : Int32} {x_ending : Int32} {x_form : Int64} {x_environment : Int32} {x_frame : Int32} {x_value : Int64} {x_applied : Int64} {x_argumentCount : Int32} {x_countedCount : Int32} {x_consCount : Int32} {x_entryCount : Int32} {x_outputCount : Int32} {x_itemCount : Int32} {x_text : Nat → Int32} {x_firsts : Nat → Int64} {x_rests : Nat → Int64} {x_placeNames : Nat → Int32} {x_placeValues : Nat → Int64} {x_placeOuters : Nat → Int32} {x_procedureParts : Nat → Int64} {x_procedurePlaces : Nat → Int32} {x_continuationFrames : Nat → Int32} {x_frameTasks : Nat → Int32} {x_frameForms : Nat → Int64} {x_frameValues : Nat → Int64} {x_framePlaces : Nat → Int32} {x_frameNexts : Nat → Int32} {x_arguments : Nat → Int64} {x_outputs : Nat → Int32} {x_itemKinds : Nat → Int32} {x_itemNumbers : Nat → Int32} {x_openLists : Nat → Int64}
variable {y_size : Int32} {y_pairs : Int32} {y_open : Int32} {y_formCount : Int32} {y_places : Int32} {y_procedures : Int32} {y_continuationCount : Int32} {y_things : Int32} {y_foundCount : Int32} {y_argumentCount : Int32} {y_value : Int64} {y_form : Int64} {y_wherein : Int32} {y_next : Int32} {y_working : Int32} {y_ending : Int32} {y_counts : Int32} {y_made : Int32} {y_entered : Int32} {y_printCount : Int32} {y_itemCount : Int32} {y_text : Nat → Int32} {y_firsts : Nat → Int64} {y_rests : Nat → Int64} {y_heads : Nat → Int32} {y_lasts : Nat → Int32} {y_globals : Nat → Int64} {y_placeNames : Nat → Int32} {y_placeValues : Nat → Int64} {y_placeNexts : Nat → Int32} {y_procedureForms : Nat → Int64} {y_procedurePlaces : Nat → Int32} {y_continuations : Nat → Int32} {y_whats : Nat → Int32} {y_withs : Nat → Int64} {y_whereins : Nat → Int32} {y_soFars : Nat → Int32} {y_afters : Nat → Int32} {y_found : Nat → Int64} {y_foundNexts : Nat → Int32} {y_arguments : Nat → Int64} {y_prints : Nat → Int32} {y_itemKinds : Nat → Int32} {y_itemNumbers : Nat → Int32} {y_pile : Nat → Int64}
variable {T : Nat → Nat} {n px py np nc c d f : Nat} {M : Nat → Nat → Prop}
theorem xs_putItem {post : SX → Prop} {a b : Int32} (hc : c < 1000) (hp : post (x_textLength, x_pairCount, x_placeCount, x_procedureCount, x_continuationCount, x_frameCount, x_state, x_ending, x_form, x_environment, x_frame, x_value, x_applied, x_argumentCount, x_countedCount, x_consCount, x_entryCount, x_outputCount, nI (c + 1), x_text, x_firsts, x_rests, x_placeNames, x_placeValues, x_placeOuters, x_procedureParts, x_procedurePlaces, x_continuationFrames, x_frameTasks, x_frameForms, x_frameValues, x_framePlaces, x_frameNexts, x_arguments, x_outputs, wr_u x_itemKinds c a, wr_u x_itemNumbers c b, x_openLists)) : wpX_putItem post (x_textLength, x_pairCount, x_placeCount, x_procedureCount, x_continuationCount, x_frameCount, x_state, x_ending, x_form, x_environment, x_frame, x_value, x_applied, x_argumentCount, x_countedCount, x_consCount, x_entryCount, x_outputCount, nI c, x_text, x_firsts, x_rests, x_placeNames, x_placeValues, x_placeOuters, x_procedureParts, x_procedurePlaces, x_continuationFrames, x_frameTasks, x_frameForms, x_frameValues, x_framePlaces, x_frameNexts, x_arguments, x_outputs, x_itemKinds, x_itemNumbers, x_openLists) a b := by
  unfold wr_u at hp
  by_cases z : c < 120
  · rw [if_pos z, if_pos z] at hp
    have e : (nI c).toNatClampNeg = c := nI_clamp (by omega)
    exact br_f (nI_ge (b := 120) z (by decide)) ⟨vp_in_nI z (by decide), nm_r (cl_I e) ⟨vp_in_nI z (by decide), nm_r (cl_I e) (nm_r (nI_1 c) hp)⟩⟩
  · rw [if_neg z, if_neg z] at hp
    exact br_t (nI_le (a := 120) (by omega) (by omega)) (nm_r (nI_1 c) hp)
theorem ys_item {post : SY → Prop} {a b : Int32} (hc : c < 122) (hp : post (y_size, y_pairs, y_open, y_formCount, y_places, y_procedures, y_continuationCount, y_things, y_foundCount, y_argumentCount, y_value, y_form, y_wherein, y_next, y_working, y_ending, y_counts, y_made, y_entered, y_printCount, nI (c + 1), y_text, y_firsts, y_rests, y_heads, y_lasts, y_globals, y_placeNames, y_placeValues, y_placeNexts, y_procedureForms, y_procedurePlaces, y_continuations, y_whats, y_withs, y_whereins, y_soFars, y_afters, y_found, y_foundNexts, y_arguments, y_prints, upd y_itemKinds c a, upd y_itemNumbers c b, y_pile)) : wpY_item post (y_size, y_pairs, y_open, y_formCount, y_places, y_procedures, y_continuationCount, y_things, y_foundCount, y_argumentCount, y_value, y_form, y_wherein, y_next, y_working, y_ending, y_counts, y_made, y_entered, y_printCount, nI c, y_text, y_firsts, y_rests, y_heads, y_lasts, y_globals, y_placeNames, y_placeValues, y_placeNexts, y_procedureForms, y_procedurePlaces, y_continuations, y_whats, y_withs, y_whereins, y_soFars, y_afters, y_found, y_foundNexts, y_arguments, y_prints, y_itemKinds, y_itemNumbers, y_pile) a b := by
  have e : (nI c).toNatClampNeg = c := nI_clamp (by omega)
  exact ⟨vp_in_nI hc (by decide), nm_r (cl_I e) ⟨vp_in_nI hc (by decide), nm_r (cl_I e) (nm_r (nI_1 c) hp)⟩⟩
theorem xs_single {post : SX → Prop} {t k s l : Nat} (hK : zv_K M np nc t k s l) (h2 : t ≠ 2) (h3 : t ≠ 3) (hl : l < 4294967296) (hc : c < 1000) (hp : post (x_textLength, x_pairCount, x_placeCount, x_procedureCount, x_continuationCount, x_frameCount, x_state, x_ending, x_form, x_environment, x_frame, x_value, x_applied, x_argumentCount, x_countedCount, x_consCount, x_entryCount, x_outputCount, nI (c + 1), x_text, x_firsts, x_rests, x_placeNames, x_placeValues, x_placeOuters, x_procedureParts, x_procedurePlaces, x_continuationFrames, x_frameTasks, x_frameForms, x_frameValues, x_framePlaces, x_frameNexts, x_arguments, x_outputs, wr_u x_itemKinds c (wr_k t), wr_u x_itemNumbers c (wr_n t k), x_openLists)) : wpX_putSingle post (x_textLength, x_pairCount, x_placeCount, x_procedureCount, x_continuationCount, x_frameCount, x_state, x_ending, x_form, x_environment, x_frame, x_value, x_applied, x_argumentCount, x_countedCount, x_consCount, x_entryCount, x_outputCount, nI c, x_text, x_firsts, x_rests, x_placeNames, x_placeValues, x_placeOuters, x_procedureParts, x_procedurePlaces, x_continuationFrames, x_frameTasks, x_frameForms, x_frameValues, x_framePlaces, x_frameNexts, x_arguments, x_outputs, x_itemKinds, x_itemNumbers, x_openLists) (zv_c s l) := by
  have vb := zv_K_b hK
  unfold wpX_putSingle
  refine xs_tagOf (by omega) hl ?_
  rcases hK with ⟨rfl, rfl, rfl⟩ | ⟨rfl, rfl, rfl, _⟩ | w | w | ⟨rfl, rfl, rfl, _⟩ | ⟨rfl, rfl, rfl, _⟩ | ⟨rfl, rfl, rfl, _⟩ | ⟨rfl, rfl, rfl, _⟩ | ⟨rfl, rfl, rfl, rfl⟩
  · rw [zv_lo]
    exact br_f (by decide) (br_f (by decide) (br_t rfl (xs_putItem hc hp)))
  · rw [zv_lo]
    exact br_f (by decide) (br_f (by decide) (br_f (by decide) (br_f (by decide) (br_f (by decide) (br_f (by decide) (br_t rfl (xs_putItem hc hp)))))))
  · omega
  · omega
  · rw [zv_lo]
    exact br_f (by decide) (br_f (by decide) (br_f (by decide) (br_t rfl (xs_putItem hc hp))))
  · exact br_f (by decide) (br_f (by decide) (br_f (by decide) (br_f (by decide) (br_f (by decide) (br_f (by decide) (br_f (by decide) (br_t rfl (xs_putItem hc hp))))))))
  · exact br_f (by decide) (br_f (by decide) (br_f (by decide) (br_f (by decide) (br_f (by decide) (br_f (by decide) (br_f (by decide) (br_f (by decide) (br_t rfl (xs_putItem hc hp)))))))))
  · exact br_f (by decide) (br_f (by decide) (br_f (by decide) (br_f (by decide) (br_f (by decide) (br_f (by decide) (br_f (by decide) (br_f (by decide) (br_f (by decide) (br_t rfl (xs_putItem hc hp))))))))))
  · exact br_f (by decide) (br_f (by decide) (br_f (by decide) (br_f (by decide) (br_f (by decide) (br_f (by decide) (br_f (by decide) (br_f (by decide) (br_f (by decide) (br_f (by decide) (br_t rfl (xs_putItem hc hp)))))))))))
/-- Y takes a single value off the pile -/
theorem yw_single {post : SY → Prop} {t k : Nat} (ht : t < 9) (h2 : t ≠ 2) (h3 : t ≠ 3) (hk : k < 4294967296) (hd : d < 299) (hc : c < 121) (hpi : y_pile d = zv_c t k)
    (hp : wY_write_17 post f (nI d) y_size y_pairs y_open y_formCount y_places y_procedures y_continuationCount y_things y_foundCount y_argumentCount y_value y_form y_wherein y_next y_working y_ending y_counts y_made y_entered y_printCount (nI (c + 1)) y_text y_firsts y_rests y_heads y_lasts y_globals y_placeNames y_placeValues y_placeNexts y_procedureForms y_procedurePlaces y_continuations y_whats y_withs y_whereins y_soFars y_afters y_found y_foundNexts y_arguments y_prints (upd y_itemKinds c (wr_k t)) (upd y_itemNumbers c (wr_n t k)) y_pile) : wY_write_17 post (f + 1) (nI (d + 1)) y_size y_pairs y_open y_formCount y_places y_procedures y_continuationCount y_things y_foundCount y_argumentCount y_value y_form y_wherein y_next y_working y_ending y_counts y_made y_entered y_printCount (nI c) y_text y_firsts y_rests y_heads y_lasts y_globals y_placeNames y_placeValues y_placeNexts y_procedureForms y_procedurePlaces y_continuations y_whats y_withs y_whereins y_soFars y_afters y_found y_foundNexts y_arguments y_prints y_itemKinds y_itemNumbers y_pile := by
  have e : (nI d).toNatClampNeg = d := nI_clamp (by omega)
  refine br_f (nI_nle (by omega) (by omega)) (br_f (nI_ge (b := 121) hc (by decide)) (nm_r (pk_m1 d) ⟨vp_in_nI (by omega) (by decide), nm_r ((cl_R e).trans hpi) (ys_tag (by omega) hk ?_)⟩))
  rw [zv_lo]
  unfold wr_k wr_n at hp
  have ht9 : t = 0 ∨ t = 1 ∨ t = 4 ∨ t = 5 ∨ t = 6 ∨ t = 7 ∨ t = 8 := by omega
  rcases ht9 with rfl | rfl | rfl | rfl | rfl | rfl | rfl
  · exact br_f (by decide) (br_f (by decide) (br_f (by decide) (br_f (by decide) (br_t rfl (br_t rfl (by unfold wY_write_242 wY_write_248; exact ys_item (by omega) hp))))))
  · exact br_f (by decide) (br_f (by decide) (br_f (by decide) (br_f (by decide) (br_f (by decide) (br_t rfl (br_f (by decide) (br_t rfl (by unfold wY_write_242 wY_write_248; exact ys_item (by omega) hp))))))))
  · exact br_f (by decide) (br_f (by decide) (br_f (by decide) (br_f (by decide) (br_f (by decide) (br_f (by decide) (br_t rfl (br_f (by decide) (br_f (by decide) (br_t rfl (by unfold wY_write_242 wY_write_248; exact ys_item (by omega) hp))))))))))
  · exact br_f (by decide) (br_f (by decide) (br_f (by decide) (br_f (by decide) (br_f (by decide) (br_f (by decide) (br_f (by decide) (br_f (by decide) (br_f (by decide) (br_f (by decide) (br_f (by decide) (ys_item (by omega) hp)))))))))))
  · exact br_f (by decide) (br_f (by decide) (br_f (by decide) (br_f (by decide) (br_f (by decide) (br_f (by decide) (br_f (by decide) (br_f (by decide) (br_f (by decide) (br_f (by decide) (br_f (by decide) (ys_item (by omega) hp)))))))))))
  · exact br_f (by decide) (br_f (by decide) (br_f (by decide) (br_f (by decide) (br_f (by decide) (br_f (by decide) (br_f (by decide) (br_f (by decide) (br_f (by decide) (br_f (by decide) (br_f (by decide) (ys_item (by omega) hp)))))))))))
  · exact br_f (by decide) (br_f (by decide) (br_f (by decide) (br_f (by decide) (br_f (by decide) (br_f (by decide) (br_f (by decide) (br_t rfl (br_f (by decide) (br_f (by decide) (br_f (by decide) (ys_item (by omega) hp)))))))))))
/-- Y takes a ")" off the pile -/
theorem yw_close {post : SY → Prop} (hd : d < 299) (hc : c < 121) (hpi : y_pile d = zv_c 11 0)
    (hp : wY_write_17 post f (nI d) y_size y_pairs y_open y_formCount y_places y_procedures y_continuationCount y_things y_foundCount y_argumentCount y_value y_form y_wherein y_next y_working y_ending y_counts y_made y_entered y_printCount (nI (c + 1)) y_text y_firsts y_rests y_heads y_lasts y_globals y_placeNames y_placeValues y_placeNexts y_procedureForms y_procedurePlaces y_continuations y_whats y_withs y_whereins y_soFars y_afters y_found y_foundNexts y_arguments y_prints (upd y_itemKinds c 3) (upd y_itemNumbers c 0) y_pile) : wY_write_17 post (f + 1) (nI (d + 1)) y_size y_pairs y_open y_formCount y_places y_procedures y_continuationCount y_things y_foundCount y_argumentCount y_value y_form y_wherein y_next y_working y_ending y_counts y_made y_entered y_printCount (nI c) y_text y_firsts y_rests y_heads y_lasts y_globals y_placeNames y_placeValues y_placeNexts y_procedureForms y_procedurePlaces y_continuations y_whats y_withs y_whereins y_soFars y_afters y_found y_foundNexts y_arguments y_prints y_itemKinds y_itemNumbers y_pile := by
  have e : (nI d).toNatClampNeg = d := nI_clamp (by omega)
  exact br_f (nI_nle (by omega) (by omega)) (br_f (nI_ge (b := 121) hc (by decide)) (nm_r (pk_m1 d) ⟨vp_in_nI (by omega) (by decide), nm_r ((cl_R e).trans hpi) (ys_tag (by decide) (by decide) (br_f (by decide) (br_t rfl (ys_item (by omega) hp))))⟩))
theorem yw_empty {post : SY → Prop} (hd : d < 290) (hc : c < 121) (hpi : y_pile d = zv_c 2 0)
    (hp : wY_write_17 post f (nI (d + 1)) y_size y_pairs y_open y_formCount y_places y_procedures y_continuationCount y_things y_foundCount y_argumentCount y_value y_form y_wherein y_next y_working y_ending y_counts y_made y_entered y_printCount (nI (c + 1)) y_text y_firsts y_rests y_heads y_lasts y_globals y_placeNames y_placeValues y_placeNexts y_procedureForms y_procedurePlaces y_continuations y_whats y_withs y_whereins y_soFars y_afters y_found y_foundNexts y_arguments y_prints (upd y_itemKinds c 2) (upd y_itemNumbers c 0) (vp_updL (vp_updL y_pile d (zv_c 11 0)) (d + 1) 0)) : wY_write_17 post (f + 1) (nI (d + 1)) y_size y_pairs y_open y_formCount y_places y_procedures y_continuationCount y_things y_foundCount y_argumentCount y_value y_form y_wherein y_next y_working y_ending y_counts y_made y_entered y_printCount (nI c) y_text y_firsts y_rests y_heads y_lasts y_globals y_placeNames y_placeValues y_placeNexts y_procedureForms y_procedurePlaces y_continuations y_whats y_withs y_whereins y_soFars y_afters y_found y_foundNexts y_arguments y_prints y_itemKinds y_itemNumbers y_pile := by
  have e : (nI d).toNatClampNeg = d := nI_clamp (by omega)
  have e1 : (nI (d + 1)).toNatClampNeg = d + 1 := nI_clamp (by omega)
  refine br_f (nI_nle (by omega) (by omega)) (br_f (nI_ge (b := 121) hc (by decide)) (nm_r (pk_m1 d) ⟨vp_in_nI (by omega) (by decide), nm_r ((cl_R e).trans hpi) (ys_tag (by decide) (by decide) (br_f (by decide) (br_f (by decide) (br_t rfl ?_))))⟩))
  unfold wY_write_102
  exact ys_item (by omega) (br_t rfl (ys_thing (t := 11) (k := 0) rfl rfl (by decide) (by decide) ⟨vp_in_nI (by omega) (by decide), nm_r (cl_L e) (nm_r (nI_1 d) (br_f (by decide) ⟨vp_in_nI (by omega) (by decide), nm_r (cl_L e1) (br_f (by decide) hp)⟩))⟩))
theorem yw_pair {post : SY → Prop} {p : Nat} (hp9 : p < 900) (hd : d < 290) (hc : c < 121) (hpi : y_pile d = zv_c 3 p)
    (hp : wY_write_17 post f (nI (d + 2)) y_size y_pairs y_open y_formCount y_places y_procedures y_continuationCount y_things y_foundCount y_argumentCount y_value y_form y_wherein y_next y_working y_ending y_counts y_made y_entered y_printCount (nI (c + 1)) y_text y_firsts y_rests y_heads y_lasts y_globals y_placeNames y_placeValues y_placeNexts y_procedureForms y_procedurePlaces y_continuations y_whats y_withs y_whereins y_soFars y_afters y_found y_foundNexts y_arguments y_prints (upd y_itemKinds c 2) (upd y_itemNumbers c 0) (vp_updL (vp_updL y_pile d (zv_c 10 p)) (d + 1) (y_firsts p))) : wY_write_17 post (f + 1) (nI (d + 1)) y_size y_pairs y_open y_formCount y_places y_procedures y_continuationCount y_things y_foundCount y_argumentCount y_value y_form y_wherein y_next y_working y_ending y_counts y_made y_entered y_printCount (nI c) y_text y_firsts y_rests y_heads y_lasts y_globals y_placeNames y_placeValues y_placeNexts y_procedureForms y_procedurePlaces y_continuations y_whats y_withs y_whereins y_soFars y_afters y_found y_foundNexts y_arguments y_prints y_itemKinds y_itemNumbers y_pile := by
  have e : (nI d).toNatClampNeg = d := nI_clamp (by omega)
  have e1 : (nI (d + 1)).toNatClampNeg = d + 1 := nI_clamp (by omega)
  have ep : (nI p).toNatClampNeg = p := nI_clamp (by omega)
  refine br_f (nI_nle (by omega) (by omega)) (br_f (nI_ge (b := 121) hc (by decide)) (nm_r (pk_m1 d) ⟨vp_in_nI (by omega) (by decide), nm_r ((cl_R e).trans hpi) (ys_tag (by decide) (by omega) (br_f (by decide) (br_f (by decide) (br_f (by decide) (br_t rfl ?_)))))⟩))
  rw [zv_lo]
  unfold wY_write_102
  refine ys_item (by omega) (br_f (by decide) (ys_thing (t := 10) (k := p) rfl rfl (by decide) (by omega) ⟨vp_in_nI (by omega) (by decide), nm_r (cl_L e) (nm_r (nI_1 d) (br_t rfl ⟨vp_in_nI hp9 (by decide), ?_⟩))⟩))
  rw [ep]
  exact ⟨vp_in_nI (by omega) (by decide), nm_r (cl_L e1) (br_t rfl (nm_r (nI_1 (d + 1)) hp))⟩
/-- Y goes on with the rest of a list -/
theorem yw_rest {post : SY → Prop} {p : Nat} {r : Int32} {u' : SY} (hp9 : p < 900) (hd : d < 290) (hc : c < 121) (hpi : y_pile d = zv_c 10 p)
    (hw : ∀ q : Int32 → SY → Prop, q r u' → wpY_writeRest q (y_size, y_pairs, y_open, y_formCount, y_places, y_procedures, y_continuationCount, y_things, y_foundCount, y_argumentCount, y_value, y_form, y_wherein, y_next, y_working, y_ending, y_counts, y_made, y_entered, y_printCount, nI c, y_text, y_firsts, y_rests, y_heads, y_lasts, y_globals, y_placeNames, y_placeValues, y_placeNexts, y_procedureForms, y_procedurePlaces, y_continuations, y_whats, y_withs, y_whereins, y_soFars, y_afters, y_found, y_foundNexts, y_arguments, y_prints, y_itemKinds, y_itemNumbers, y_pile) (y_rests p) (nI d)) (hp : match u' with | (y_size, y_pairs, y_open, y_formCount, y_places, y_procedures, y_continuationCount, y_things, y_foundCount, y_argumentCount, y_value, y_form, y_wherein, y_next, y_working, y_ending, y_counts, y_made, y_entered, y_printCount, y_itemCount, y_text, y_firsts, y_rests, y_heads, y_lasts, y_globals, y_placeNames, y_placeValues, y_placeNexts, y_procedureForms, y_procedurePlaces, y_continuations, y_whats, y_withs, y_whereins, y_soFars, y_afters, y_found, y_foundNexts, y_arguments, y_prints, y_itemKinds, y_itemNumbers, y_pile) => wY_write_17 post f r y_size y_pairs y_open y_formCount y_places y_procedures y_continuationCount y_things y_foundCount y_argumentCount y_value y_form y_wherein y_next y_working y_ending y_counts y_made y_entered y_printCount y_itemCount y_text y_firsts y_rests y_heads y_lasts y_globals y_placeNames y_placeValues y_placeNexts y_procedureForms y_procedurePlaces y_continuations y_whats y_withs y_whereins y_soFars y_afters y_found y_foundNexts y_arguments y_prints y_itemKinds y_itemNumbers y_pile) : wY_write_17 post (f + 1) (nI (d + 1)) y_size y_pairs y_open y_formCount y_places y_procedures y_continuationCount y_things y_foundCount y_argumentCount y_value y_form y_wherein y_next y_working y_ending y_counts y_made y_entered y_printCount (nI c) y_text y_firsts y_rests y_heads y_lasts y_globals y_placeNames y_placeValues y_placeNexts y_procedureForms y_procedurePlaces y_continuations y_whats y_withs y_whereins y_soFars y_afters y_found y_foundNexts y_arguments y_prints y_itemKinds y_itemNumbers y_pile := by
  have e : (nI d).toNatClampNeg = d := nI_clamp (by omega)
  refine br_f (nI_nle (by omega) (by omega)) (br_f (nI_ge (b := 121) hc (by decide)) (nm_r (pk_m1 d) ⟨vp_in_nI (by omega) (by decide), nm_r ((cl_R e).trans hpi) (ys_tag (by decide) (by omega) (br_t rfl ⟨zv_in hp9 (by decide), ?_⟩))⟩))
  rw [zv_cl (by omega)]
  refine hw _ ?_
  obtain ⟨y_size, y_pairs, y_open, y_formCount, y_places, y_procedures, y_continuationCount, y_things, y_foundCount, y_argumentCount, y_value, y_form, y_wherein, y_next, y_working, y_ending, y_counts, y_made, y_entered, y_printCount, y_itemCount, y_text, y_firsts, y_rests, y_heads, y_lasts, y_globals, y_placeNames, y_placeValues, y_placeNexts, y_procedureForms, y_procedurePlaces, y_continuations, y_whats, y_withs, y_whereins, y_soFars, y_afters, y_found, y_foundNexts, y_arguments, y_prints, y_itemKinds, y_itemNumbers, y_pile⟩ := u'
  exact hp
theorem yr_pair {q : Int32 → SY → Prop} {p : Nat} (hp9 : p < 900) (hd : d < 290) (hq : q (nI (d + 2)) (y_size, y_pairs, y_open, y_formCount, y_places, y_procedures, y_continuationCount, y_things, y_foundCount, y_argumentCount, y_value, y_form, y_wherein, y_next, y_working, y_ending, y_counts, y_made, y_entered, y_printCount, y_itemCount, y_text, y_firsts, y_rests, y_heads, y_lasts, y_globals, y_placeNames, y_placeValues, y_placeNexts, y_procedureForms, y_procedurePlaces, y_continuations, y_whats, y_withs, y_whereins, y_soFars, y_afters, y_found, y_foundNexts, y_arguments, y_prints, y_itemKinds, y_itemNumbers, vp_updL (vp_updL y_pile d (zv_c 10 p)) (d + 1) (y_firsts p))) : wpY_writeRest q (y_size, y_pairs, y_open, y_formCount, y_places, y_procedures, y_continuationCount, y_things, y_foundCount, y_argumentCount, y_value, y_form, y_wherein, y_next, y_working, y_ending, y_counts, y_made, y_entered, y_printCount, y_itemCount, y_text, y_firsts, y_rests, y_heads, y_lasts, y_globals, y_placeNames, y_placeValues, y_placeNexts, y_procedureForms, y_procedurePlaces, y_continuations, y_whats, y_withs, y_whereins, y_soFars, y_afters, y_found, y_foundNexts, y_arguments, y_prints, y_itemKinds, y_itemNumbers, y_pile) (zv_c 3 p) (nI d) := by
  have e : (nI d).toNatClampNeg = d := nI_clamp (by omega)
  have e1 : (nI d + 1).toNatClampNeg = d + 1 := by rw [nI_1]; exact nI_clamp (by omega)
  have e2 : nI d + 2 = nI (d + 2) := nI_add d 2
  unfold wpY_writeRest
  refine ys_tag (by decide) (by omega) (br_t rfl ?_)
  rw [zv_lo, e2]
  exact ys_thing (t := 10) (k := p) rfl rfl (by decide) (by omega) ⟨vp_in_nI (by omega) (by decide), nm_r (cl_L e) (ys_firstOf hp9 ⟨by rw [nI_1]; exact vp_in_nI (by omega) (by decide), nm_r (cl_L e1) hq⟩)⟩
theorem yr_empty {q : Int32 → SY → Prop} (hd : d < 290) (hq : q (nI (d + 1)) (y_size, y_pairs, y_open, y_formCount, y_places, y_procedures, y_continuationCount, y_things, y_foundCount, y_argumentCount, y_value, y_form, y_wherein, y_next, y_working, y_ending, y_counts, y_made, y_entered, y_printCount, y_itemCount, y_text, y_firsts, y_rests, y_heads, y_lasts, y_globals, y_placeNames, y_placeValues, y_placeNexts, y_procedureForms, y_procedurePlaces, y_continuations, y_whats, y_withs, y_whereins, y_soFars, y_afters, y_found, y_foundNexts, y_arguments, y_prints, y_itemKinds, y_itemNumbers, vp_updL y_pile d (zv_c 11 0))) : wpY_writeRest q (y_size, y_pairs, y_open, y_formCount, y_places, y_procedures, y_continuationCount, y_things, y_foundCount, y_argumentCount, y_value, y_form, y_wherein, y_next, y_working, y_ending, y_counts, y_made, y_entered, y_printCount, y_itemCount, y_text, y_firsts, y_rests, y_heads, y_lasts, y_globals, y_placeNames, y_placeValues, y_placeNexts, y_procedureForms, y_procedurePlaces, y_continuations, y_whats, y_withs, y_whereins, y_soFars, y_afters, y_found, y_foundNexts, y_arguments, y_prints, y_itemKinds, y_itemNumbers, y_pile) (zv_c 2 0) (nI d) := by
  have e : (nI d).toNatClampNeg = d := nI_clamp (by omega)
  unfold wpY_writeRest
  refine ys_tag (by decide) (by decide) (br_f (by decide) ?_)
  rw [nI_1]
  exact ys_thing (t := 11) (k := 0) rfl rfl (by decide) (by decide) ⟨vp_in_nI (by omega) (by decide), nm_r (cl_L e) (ys_tag (by decide) (by decide) (br_t rfl hq))⟩
theorem yr_dot {q : Int32 → SY → Prop} {t k : Nat} (ht : t < 9) (h2 : t ≠ 2) (h3 : t ≠ 3) (hk : k < 4294967296) (hd : d < 290) (hc : c < 121) (hq : q (nI (d + 2)) (y_size, y_pairs, y_open, y_formCount, y_places, y_procedures, y_continuationCount, y_things, y_foundCount, y_argumentCount, y_value, y_form, y_wherein, y_next, y_working, y_ending, y_counts, y_made, y_entered, y_printCount, nI (c + 1), y_text, y_firsts, y_rests, y_heads, y_lasts, y_globals, y_placeNames, y_placeValues, y_placeNexts, y_procedureForms, y_procedurePlaces, y_continuations, y_whats, y_withs, y_whereins, y_soFars, y_afters, y_found, y_foundNexts, y_arguments, y_prints, upd y_itemKinds c 4, upd y_itemNumbers c 0, vp_updL (vp_updL y_pile d (zv_c 11 0)) (d + 1) (zv_c t k))) : wpY_writeRest q (y_size, y_pairs, y_open, y_formCount, y_places, y_procedures, y_continuationCount, y_things, y_foundCount, y_argumentCount, y_value, y_form, y_wherein, y_next, y_working, y_ending, y_counts, y_made, y_entered, y_printCount, nI c, y_text, y_firsts, y_rests, y_heads, y_lasts, y_globals, y_placeNames, y_placeValues, y_placeNexts, y_procedureForms, y_procedurePlaces, y_continuations, y_whats, y_withs, y_whereins, y_soFars, y_afters, y_found, y_foundNexts, y_arguments, y_prints, y_itemKinds, y_itemNumbers, y_pile) (zv_c t k) (nI d) := by
  have e : (nI d).toNatClampNeg = d := nI_clamp (by omega)
  have e1 : (nI d + 1).toNatClampNeg = d + 1 := by rw [nI_1]; exact nI_clamp (by omega)
  have e2 : nI d + 2 = nI (d + 2) := nI_add d 2
  unfold wpY_writeRest
  refine ys_tag (by omega) hk (br_f (ne_I (b := 3) h3 (by omega) (by decide)) ?_)
  rw [e2]
  exact ys_thing (t := 11) (k := 0) rfl rfl (by decide) (by decide) ⟨vp_in_nI (by omega) (by decide), nm_r (cl_L e) (ys_tag (by omega) hk (br_f (ne_I (b := 2) h2 (by omega) (by decide)) (ys_item (by omega) ⟨by rw [nI_1]; exact vp_in_nI (by omega) (by decide), nm_r (cl_L e1) hq⟩)))⟩
end
end
section
/-! the value is written: both sides -/
def wr_F (cx : Nat) (kx nx : Nat → Int32) (cy : Nat) (ky ny : Nat → Int32) : Prop := (cx ≤ 120 ∧ cy = cx ∧ ∀ j, j < cx → kx j = ky j ∧ nx j = ny j) ∨ (120 < cx ∧ cx < 1000 ∧ 120 < cy ∧ cy < 1000)
def wr_E (c : Nat) (kx nx ky ny : Nat → Int32) : Prop := ∀ j, j < c → j < 120 → kx j = ky j ∧ nx j = ny j
theorem wr_put {c : Nat} {kx nx ky ny : Nat → Int32} {a b : Int32} (h : wr_E c kx nx ky ny) : wr_E (c + 1) (wr_u kx c a) (wr_u nx c b) (upd ky c a) (upd ny c b) := by
  intro j h1 h2
  unfold wr_u
  by_cases z : c < 120
  · rw [if_pos z, if_pos z]
    by_cases y : j = c
    · rw [y, pk_us, pk_us, pk_us, pk_us]; exact ⟨rfl, rfl⟩
    · rw [pk_un y, pk_un y, pk_un y, pk_un y]; exact h j (by omega) h2
  · rw [if_neg z, if_neg z, pk_un (by omega), pk_un (by omega)]
    exact h j (by omega) h2
section
variable {x_textLength : Int32} {x_pairCount : Int32} {x_placeCount : Int32} {x_procedureCount : Int32} {x_continuationCount : Int32} {x_frameCount : Int32} {x_state : Int32} {x_ending : Int32} {x_form : Int64} {x_environment : Int32} {x_frame : Int32} {x_value : Int64} {x_applied : Int64} {x_argumentCount : Int32} {x_countedCount : Int32} {x_consCount : Int32} {x_entryCount : Int32} {x_outputCount : Int32} {x_itemCount : Int32} {x_text : Nat → Int32} {x_firsts : Nat → Int64} {x_rests : Nat → Int64} {x_placeNames : Nat → Int32} {x_placeValues : Nat → Int64} {x_placeOuters : Nat → Int32} {x_procedureParts : Nat → Int64} {x_procedurePlaces : Nat → Int32} {x_continuationFrames : Nat → Int32} {x_frameTasks : Nat → Int32} {x_frameForms : Nat → Int64} {x_frameValues : Nat → Int64} {x_framePlaces : Nat → Int32} {x_frameNexts : Nat → Int32} {x_arguments : Nat → Int64} {x_outputs : Nat → Int32} {x_itemKinds : Nat → Int32} {x_itemNumbers : Nat → Int32} {x_openLists : Nat → Int64}
variable {y_size : Int32} {y_pairs : Int32} {y_open : Int32} {y_formCount : Int32} {y_places : Int32} {y_procedures : Int32} {y_continuationCount : Int32} {y_things : Int32} {y_foundCount : Int32} {y_argumentCount : Int32} {y_value : Int64} {y_form : Int64} {y_wherein : Int32} {y_next : Int32} {y_working : Int32} {y_ending : Int32} {y_counts : Int32} {y_made : Int32} {y_entered : Int32} {y_printCount : Int32} {y_itemCount : Int32} {y_text : Nat → Int32} {y_firsts : Nat → Int64} {y_rests : Nat → Int64} {y_heads : Nat → Int32} {y_lasts : Nat → Int32} {y_globals : Nat → Int64} {y_placeNames : Nat → Int32} {y_placeValues : Nat → Int64} {y_placeNexts : Nat → Int32} {y_procedureForms : Nat → Int64} {y_procedurePlaces : Nat → Int32} {y_continuations : Nat → Int32} {y_whats : Nat → Int32} {y_withs : Nat → Int64} {y_whereins : Nat → Int32} {y_soFars : Nat → Int32} {y_afters : Nat → Int32} {y_found : Nat → Int64} {y_foundNexts : Nat → Int32} {y_arguments : Nat → Int64} {y_prints : Nat → Int32} {y_itemKinds : Nat → Int32} {y_itemNumbers : Nat → Int32} {y_pile : Nat → Int64}
variable {T : Nat → Nat} {n px py np nc : Nat} {M : Nat → Nat → Prop}
theorem xw_over {post : SX → Prop} {c i : Nat} {x : Int64} {w d : Int32} (hc : 120 < c) (hc2 : c < 1000) (hi : i < 300) (hp : wX_write_176 post x_textLength x_pairCount x_placeCount x_procedureCount x_continuationCount x_frameCount x_state x_ending x_form x_environment x_frame x_value x_applied x_argumentCount x_countedCount x_consCount x_entryCount x_outputCount (nI c) x_text x_firsts x_rests x_placeNames x_placeValues x_placeOuters x_procedureParts x_procedurePlaces x_continuationFrames x_frameTasks x_frameForms x_frameValues x_framePlaces x_frameNexts x_arguments x_outputs x_itemKinds x_itemNumbers x_openLists) : wX_write_18 post 1 x w d (nI i) x_textLength x_pairCount x_placeCount x_procedureCount x_continuationCount x_frameCount x_state x_ending x_form x_environment x_frame x_value x_applied x_argumentCount x_countedCount x_consCount x_entryCount x_outputCount (nI c) x_text x_firsts x_rests x_placeNames x_placeValues x_placeOuters x_procedureParts x_procedurePlaces x_continuationFrames x_frameTasks x_frameForms x_frameValues x_framePlaces x_frameNexts x_arguments x_outputs x_itemKinds x_itemNumbers x_openLists :=
  br_f (nI_ge (b := 300) hi (by decide)) (br_t (nI_lt (a := 120) hc (by omega)) hp)
theorem yw_over {post : SY → Prop} {c h : Nat} (hc : 120 < c) (hc2 : c < 1000) (hh : h < 1000) (hp : post (y_size, y_pairs, y_open, y_formCount, y_places, y_procedures, y_continuationCount, y_things, y_foundCount, y_argumentCount, y_value, y_form, y_wherein, y_next, y_working, y_ending, y_counts, y_made, y_entered, y_printCount, nI c, y_text, y_firsts, y_rests, y_heads, y_lasts, y_globals, y_placeNames, y_placeValues, y_placeNexts, y_procedureForms, y_procedurePlaces, y_continuations, y_whats, y_withs, y_whereins, y_soFars, y_afters, y_found, y_foundNexts, y_arguments, y_prints, y_itemKinds, y_itemNumbers, y_pile)) : wY_write_17 post 1 (nI h) y_size y_pairs y_open y_formCount y_places y_procedures y_continuationCount y_things y_foundCount y_argumentCount y_value y_form y_wherein y_next y_working y_ending y_counts y_made y_entered y_printCount (nI c) y_text y_firsts y_rests y_heads y_lasts y_globals y_placeNames y_placeValues y_placeNexts y_procedureForms y_procedurePlaces y_continuations y_whats y_withs y_whereins y_soFars y_afters y_found y_foundNexts y_arguments y_prints y_itemKinds y_itemNumbers y_pile :=
  pk_le h 0 (fun _ => hp) (fun _ => br_t (nI_le (a := 121) (by omega) (by omega)) hp)
theorem wr_main (hp : hp_OK T n M np nc py px y_firsts y_rests x_firsts x_rests) (hpx : px ≤ 1400) (hpy : py ≤ 900) :
    ∀ m c d w i (nxt : Int64) (kx nx : Nat → Int32) (ol : Nat → Int64) (ky ny : Nat → Int32) (pl : Nat → Int64), 2 * (121 - c) + (1 - w) ≤ m → w ≤ 1 → c ≤ 130 → d ≤ c → d ≤ 125 → i ≤ 2 * c + w → wr_E c kx nx ky ny →
      (∀ j, j < d → ∃ p q, M p q ∧ pl j = zv_c 10 p ∧ zv_V M np nc (y_rests p) (ol j)) → (w = 1 → zv_V M np nc (pl d) nxt) →
      ∃ cx kx' nx' ol' cy ky' ny' pl', wr_F cx kx' nx' cy ky' ny' ∧
        (∀ post : SX → Prop, wX_write_176 post x_textLength x_pairCount x_placeCount x_procedureCount x_continuationCount x_frameCount x_state x_ending x_form x_environment x_frame x_value x_applied x_argumentCount x_countedCount x_consCount x_entryCount x_outputCount (nI cx) x_text x_firsts x_rests x_placeNames x_placeValues x_placeOuters x_procedureParts x_procedurePlaces x_continuationFrames x_frameTasks x_frameForms x_frameValues x_framePlaces x_frameNexts x_arguments x_outputs (kx') (nx') (ol') → ∃ f, wX_write_18 post f nxt (nI w) (nI d) (nI i) x_textLength x_pairCount x_placeCount x_procedureCount x_continuationCount x_frameCount x_state x_ending x_form x_environment x_frame x_value x_applied x_argumentCount x_countedCount x_consCount x_entryCount x_outputCount (nI c) x_text x_firsts x_rests x_placeNames x_placeValues x_placeOuters x_procedureParts x_procedurePlaces x_continuationFrames x_frameTasks x_frameForms x_frameValues x_framePlaces x_frameNexts x_arguments x_outputs kx nx ol) ∧
        (∀ post : SY → Prop, post (y_size, y_pairs, y_open, y_formCount, y_places, y_procedures, y_continuationCount, y_things, y_foundCount, y_argumentCount, y_value, y_form, y_wherein, y_next, y_working, y_ending, y_counts, y_made, y_entered, y_printCount, nI cy, y_text, y_firsts, y_rests, y_heads, y_lasts, y_globals, y_placeNames, y_placeValues, y_placeNexts, y_procedureForms, y_procedurePlaces, y_continuations, y_whats, y_withs, y_whereins, y_soFars, y_afters, y_found, y_foundNexts, y_arguments, y_prints, ky', ny', pl') → ∃ f, wY_write_17 post f (nI (d + w)) y_size y_pairs y_open y_formCount y_places y_procedures y_continuationCount y_things y_foundCount y_argumentCount y_value y_form y_wherein y_next y_working y_ending y_counts y_made y_entered y_printCount (nI c) y_text y_firsts y_rests y_heads y_lasts y_globals y_placeNames y_placeValues y_placeNexts y_procedureForms y_procedurePlaces y_continuations y_whats y_withs y_whereins y_soFars y_afters y_found y_foundNexts y_arguments y_prints ky ny pl) := by
  intro m
  induction m with
  | zero =>
    intro c d w i nxt kx nx ol ky ny pl hm hw hc hd hd2 hi hE hS hV
    exact ⟨c, kx, nx, ol, c, ky, ny, pl, Or.inr ⟨by omega, by omega, by omega, by omega⟩, fun post h => ⟨1, xw_over (by omega) (by omega) (by omega) h⟩, fun post h => ⟨1, yw_over (by omega) (by omega) (by omega) h⟩⟩
  | succ m ih =>
    intro c d w i nxt kx nx ol ky ny pl hm hw hc hd hd2 hi hE hS hV
    by_cases hov : 120 < c
    · exact ⟨c, kx, nx, ol, c, ky, ny, pl, Or.inr ⟨by omega, by omega, by omega, by omega⟩, fun post h => ⟨1, xw_over (by omega) (by omega) (by omega) h⟩, fun post h => ⟨1, yw_over (by omega) (by omega) (by omega) h⟩⟩
    have pre : ∀ (post : SX → Prop) (f : Nat) (z : Int32), (z = 0 → ¬ nI d ≤ 0) → wX_write_44 post (wX_write_18 post f) nxt z (nI d) (nI i) x_textLength x_pairCount x_placeCount x_procedureCount x_continuationCount x_frameCount x_state x_ending x_form x_environment x_frame x_value x_applied x_argumentCount x_countedCount x_consCount x_entryCount x_outputCount (nI c) x_text x_firsts x_rests x_placeNames x_placeValues x_placeOuters x_procedureParts x_procedurePlaces x_continuationFrames x_frameTasks x_frameForms x_frameValues x_framePlaces x_frameNexts x_arguments x_outputs kx nx ol → wX_write_18 post (f + 1) nxt z (nI d) (nI i) x_textLength x_pairCount x_placeCount x_procedureCount x_continuationCount x_frameCount x_state x_ending x_form x_environment x_frame x_value x_applied x_argumentCount x_countedCount x_consCount x_entryCount x_outputCount (nI c) x_text x_firsts x_rests x_placeNames x_placeValues x_placeOuters x_procedureParts x_procedurePlaces x_continuationFrames x_frameTasks x_frameForms x_frameValues x_framePlaces x_frameNexts x_arguments x_outputs kx nx ol :=
      fun post f z hz h => br_f (nI_ge (b := 300) (by omega) (by decide)) (br_f (nI_nlt (a := 120) (by omega) (by decide)) (br_c (fun y => br_f (hz y) h) (fun _ => h)))
    by_cases hw1 : w = 1
    · subst hw1
      have hV := hV rfl
      rcases zv_Vpair hV with ⟨p, q, hM, p1, q1, ey, rfl⟩ | ⟨t, k, s, l, t1, s1, t2, s2, a1, l1, ey, ex⟩
      · -- a pair
        obtain ⟨g1, g2⟩ := hp.1 _ _ hM
        obtain ⟨w1, w2⟩ := hp.2.2.2.1 _ _ hM
        have hin : vp_in (zv_c 2 q).toInt32 1400 := zv_in (by omega) (by decide)
        have hcl : (zv_c 2 q).toInt32.toNatClampNeg = q := zv_cl (by omega)
        have ed : (nI d).toNatClampNeg = d := nI_clamp (by omega)
        obtain ⟨cx, kx', nx', ol', cy, ky', ny', pl', h1, h2, h3⟩ := ih (c + 1) (d + 1) 1 (i + 1) (x_firsts q) (wr_u kx c 2) (wr_u nx c 0) (vp_updL ol d (x_rests q)) (upd ky c 2) (upd ny c 0) (vp_updL (vp_updL pl d (zv_c 10 p)) (d + 1) (y_firsts p)) (by omega) (by omega) (by omega) (by omega) (by omega) (by omega) (wr_put hE)
          (fun j hj => by
            by_cases z : j = d
            · subst z
              exact ⟨p, q, hM, by rw [pk_uLn (by omega), pk_uLs], by rw [pk_uLs]; exact w2⟩
            · obtain ⟨p', q', r1, r2, r3⟩ := hS j (by omega)
              exact ⟨p', q', r1, by rw [pk_uLn (by omega), pk_uLn z]; exact r2, by rw [pk_uLn z]; exact r3⟩)
          (fun _ => by rw [pk_uLs]; exact w1)
        refine ⟨cx, kx', nx', ol', cy, ky', ny', pl', h1, fun post h => ?_, fun post h => ?_⟩
        · obtain ⟨f, hf⟩ := h2 post h
          refine ⟨f + 1, pre post f 1 (fun z => absurd z (by decide)) (br_f (by decide) (br_t ((zk_s2 (by decide) q1).mpr rfl) (xs_putItem (by omega) ⟨hin, vp_in_nI (by omega) (by decide), ?_⟩)))⟩
          rw [hcl]
          exact nm_r (cl_L ed) (nm_r (nI_1 d) ⟨hin, nm_e (nm_r (nI_1 i) hf)⟩)
        · obtain ⟨f, hf⟩ := h3 post h
          exact ⟨f + 1, yw_pair (by omega) (by omega) (by omega) ey hf⟩
      · have hV' := hV
        obtain ⟨t', k', s', l', v1, v2, v3, v4, vK⟩ := hV'
        have vb := zv_K_b vK
        have vp := zv_K_p vK
        have e1 := (zv_eq (by omega) a1 (by omega) v1).mp (ey.symm.trans v3)
        have e2 := (zv_eq (by omega) l1 (by omega) v2).mp (ex.symm.trans v4)
        obtain ⟨rfl, rfl⟩ := e1
        obtain ⟨rfl, rfl⟩ := e2
        subst ex
        have hnp : ¬ zv_c s l >>> ((32 : Int32).toInt64 &&& 63) = 2 := fun z => s2 ((zk_s2 s1 l1).mp z)
        by_cases ht2 : t = 2
        · -- the empty list
          obtain ⟨rfl, rfl⟩ := vp.2.2.2.2.1 ht2
          have hs3 := vp.2.2.1.mp ht2
          subst ht2 hs3
          have hX : ∀ (post : SX → Prop) (f : Nat), wX_write_18 post f (zv_c 3 0) 0 (nI d) (nI (i + 1)) x_textLength x_pairCount x_placeCount x_procedureCount x_continuationCount x_frameCount x_state x_ending x_form x_environment x_frame x_value x_applied x_argumentCount x_countedCount x_consCount x_entryCount x_outputCount (nI (c + 1 + 1)) x_text x_firsts x_rests x_placeNames x_placeValues x_placeOuters x_procedureParts x_procedurePlaces x_continuationFrames x_frameTasks x_frameForms x_frameValues x_framePlaces x_frameNexts x_arguments x_outputs (wr_u (wr_u kx c 2) (c + 1) 3) (wr_u (wr_u nx c 0) (c + 1) 0) ol → wX_write_18 post (f + 1) (zv_c 3 0) 1 (nI d) (nI i) x_textLength x_pairCount x_placeCount x_procedureCount x_continuationCount x_frameCount x_state x_ending x_form x_environment x_frame x_value x_applied x_argumentCount x_countedCount x_consCount x_entryCount x_outputCount (nI c) x_text x_firsts x_rests x_placeNames x_placeValues x_placeOuters x_procedureParts x_procedurePlaces x_continuationFrames x_frameTasks x_frameForms x_frameValues x_framePlaces x_frameNexts x_arguments x_outputs kx nx ol := by
            intro post f hf
            refine pre post f 1 (fun z => absurd z (by decide)) (br_f (by decide) (br_f hnp (br_f (by decide) ?_)))
            unfold wpX_putSingle
            exact xs_tagOf (by decide) (by decide) (br_f (by decide) (br_f (by decide) (br_f (by decide) (br_f (by decide) (br_f (by decide) (br_t rfl (xs_putItem (by omega) (xs_putItem (by omega) (nm_r (nI_1 i) hf)))))))))
          by_cases hc2 : c < 120
          · obtain ⟨cx, kx', nx', ol', cy, ky', ny', pl', h1, h2, h3⟩ := ih (c + 1 + 1) d 0 (i + 1) (zv_c 3 0) _ _ ol _ _ (vp_updL (vp_updL pl d (zv_c 11 0)) (d + 1) 0) (by omega) (by omega) (by omega) (by omega) (by omega) (by omega) (wr_put (a := 3) (b := 0) (wr_put (a := 2) (b := 0) hE))
              (fun j hj => by
                obtain ⟨p', q', r1, r2, r3⟩ := hS j hj
                exact ⟨p', q', r1, by rw [pk_uLn (by omega), pk_uLn (by omega)]; exact r2, r3⟩) (fun z => by omega)
            refine ⟨cx, kx', nx', ol', cy, ky', ny', pl', h1, fun post h => ?_, fun post h => ?_⟩
            · obtain ⟨f, hf⟩ := h2 post h
              exact ⟨f + 1, hX post f hf⟩
            · obtain ⟨f, hf⟩ := h3 post h
              exact ⟨f + 1 + 1, yw_empty (by omega) (by omega) ey (yw_close (by omega) (by omega) (by rw [pk_uLn (by omega), pk_uLs]) hf)⟩
          · exact ⟨c + 1 + 1, _, _, ol, c + 1, _, _, _, Or.inr ⟨by omega, by omega, by omega, by omega⟩, fun post h => ⟨1 + 1, hX post 1 (xw_over (by omega) (by omega) (by omega) h)⟩, fun post h => ⟨1 + 1, yw_empty (by omega) (by omega) ey (yw_over (by omega) (by omega) (by omega) h)⟩⟩
        · -- a single value
          obtain ⟨cx, kx', nx', ol', cy, ky', ny', pl', h1, h2, h3⟩ := ih (c + 1) d 0 (i + 1) (zv_c s l) _ _ ol _ _ pl (by omega) (by omega) (by omega) (by omega) (by omega) (by omega) (wr_put (a := wr_k t) (b := wr_n t k) hE) hS (fun z => by omega)
          refine ⟨cx, kx', nx', ol', cy, ky', ny', pl', h1, fun post h => ?_, fun post h => ?_⟩
          · obtain ⟨f, hf⟩ := h2 post h
            exact ⟨f + 1, pre post f 1 (fun z => absurd z (by decide)) (br_f (by decide) (br_f hnp (br_f (by decide) (xs_single vK ht2 t2 l1 (by omega) (nm_r (nI_1 i) hf)))))⟩
          · obtain ⟨f, hf⟩ := h3 post h
            exact ⟨f + 1, yw_single t1 ht2 t2 a1 (by omega) (by omega) ey hf⟩
    · have hw0 : w = 0 := by omega
      subst hw0
      by_cases hd0 : d = 0
      · subst hd0
        refine ⟨c, kx, nx, ol, c, ky, ny, pl, Or.inl ⟨by omega, rfl, fun j hj => hE j hj (by omega)⟩, fun post h => ⟨1, ?_⟩, fun post h => ⟨1, br_t (by decide) h⟩⟩
        exact br_f (nI_ge (b := 300) (by omega) (by decide)) (br_f (nI_nlt (a := 120) (by omega) (by decide)) (br_t rfl (br_t (by decide) h)))
      · obtain ⟨e, rfl⟩ : ∃ e, d = e + 1 := ⟨d - 1, by omega⟩
        obtain ⟨p, q, hM, hpi, hV⟩ := hS e (by omega)
        obtain ⟨g1, g2⟩ := hp.1 _ _ hM
        have ee : (nI (e + 1) - 1).toNatClampNeg = e := by rw [nI_pred]; exact nI_clamp (by omega)
        have hie : vp_in (nI (e + 1) - 1) 128 := by rw [nI_pred]; exact vp_in_nI (by omega) (by decide)
        have hz : (0 : Int32) = 0 → ¬ nI (e + 1) ≤ 0 := fun _ => nI_nle (by omega) (by omega)
        rcases zv_Vpair hV with ⟨p', q', hM', p1, q1, ey, ex⟩ | ⟨t, k, s, l, t1, s1, t2, s2, a1, l1, ey, ex⟩
        · -- the rest is a pair
          obtain ⟨g1', g2'⟩ := hp.1 _ _ hM'
          obtain ⟨w1, w2⟩ := hp.2.2.2.1 _ _ hM'
          have hin : vp_in (zv_c 2 q').toInt32 1400 := zv_in (by omega) (by decide)
          have hcl : (zv_c 2 q').toInt32.toNatClampNeg = q' := zv_cl (by omega)
          obtain ⟨cx, kx', nx', ol', cy, ky', ny', pl', h1, h2, h3⟩ := ih c (e + 1) 1 (i + 1) (x_firsts q') kx nx (vp_updL ol e (x_rests q')) ky ny (vp_updL (vp_updL pl e (zv_c 10 p')) (e + 1) (y_firsts p')) (by omega) (by omega) (by omega) (by omega) (by omega) (by omega) hE
            (fun j hj => by
              by_cases z : j = e
              · subst z
                exact ⟨p', q', hM', by rw [pk_uLn (by omega), pk_uLs], by rw [pk_uLs]; exact w2⟩
              · obtain ⟨p2, q2, r1, r2, r3⟩ := hS j (by omega)
                exact ⟨p2, q2, r1, by rw [pk_uLn (by omega), pk_uLn z]; exact r2, by rw [pk_uLn z]; exact r3⟩)
            (fun _ => by rw [pk_uLs]; exact w1)
          refine ⟨cx, kx', nx', ol', cy, ky', ny', pl', h1, fun post h => ?_, fun post h => ?_⟩
          · obtain ⟨f, hf⟩ := h2 post h
            refine ⟨f + 1, pre post f 0 hz (br_t rfl (br_t rfl ⟨hie, nm_r ((cl_R ee).trans ex) (br_t ((zk_s2 (by decide) q1).mpr rfl) ⟨hin, nm_r (cl_R hcl) ⟨hin, hie, ?_⟩⟩)⟩))⟩
            rw [hcl]
            exact nm_r (cl_L ee) (nm_r (nI_1 i) hf)
          · obtain ⟨f, hf⟩ := h3 post h
            exact ⟨f + 1, yw_rest (by omega) (by omega) (by omega) hpi (fun Q hQ => by rw [ey]; exact yr_pair (by omega) (by omega) hQ) hf⟩
        · have hV' := hV
          obtain ⟨t', k', s', l', v1, v2, v3, v4, vK⟩ := hV'
          have vb := zv_K_b vK
          have vp := zv_K_p vK
          have e1 := (zv_eq (by omega) a1 (by omega) v1).mp (ey.symm.trans v3)
          have e2 := (zv_eq (by omega) l1 (by omega) v2).mp (ex.symm.trans v4)
          obtain ⟨rfl, rfl⟩ := e1
          obtain ⟨rfl, rfl⟩ := e2
          have hnp : ¬ zv_c s l >>> ((32 : Int32).toInt64 &&& 63) = 2 := fun z => s2 ((zk_s2 s1 l1).mp z)
          have ei : nI (e + 1) + (-1) = nI e := pk_m1 e
          have hX : ∀ (post : SX → Prop) (f : Nat), wpX_putEnd (fun u => match u with | (x_textLength, x_pairCount, x_placeCount, x_procedureCount, x_continuationCount, x_frameCount, x_state, x_ending, x_form, x_environment, x_frame, x_value, x_applied, x_argumentCount, x_countedCount, x_consCount, x_entryCount, x_outputCount, x_itemCount, x_text, x_firsts, x_rests, x_placeNames, x_placeValues, x_placeOuters, x_procedureParts, x_procedurePlaces, x_continuationFrames, x_frameTasks, x_frameForms, x_frameValues, x_framePlaces, x_frameNexts, x_arguments, x_outputs, x_itemKinds, x_itemNumbers, x_openLists) => ∀ a : Int32, a = nI (e + 1) + (-1) → ∀ b : Int32, b = nI i + 1 → wX_write_18 post f nxt 0 a b x_textLength x_pairCount x_placeCount x_procedureCount x_continuationCount x_frameCount x_state x_ending x_form x_environment x_frame x_value x_applied x_argumentCount x_countedCount x_consCount x_entryCount x_outputCount x_itemCount x_text x_firsts x_rests x_placeNames x_placeValues x_placeOuters x_procedureParts x_procedurePlaces x_continuationFrames x_frameTasks x_frameForms x_frameValues x_framePlaces x_frameNexts x_arguments x_outputs x_itemKinds x_itemNumbers x_openLists) (x_textLength, x_pairCount, x_placeCount, x_procedureCount, x_continuationCount, x_frameCount, x_state, x_ending, x_form, x_environment, x_frame, x_value, x_applied, x_argumentCount, x_countedCount, x_consCount, x_entryCount, x_outputCount, nI c, x_text, x_firsts, x_rests, x_placeNames, x_placeValues, x_placeOuters, x_procedureParts, x_procedurePlaces, x_continuationFrames, x_frameTasks, x_frameForms, x_frameValues, x_framePlaces, x_frameNexts, x_arguments, x_outputs, kx, nx, ol) (zv_c s l) → wX_write_18 post (f + 1) nxt 0 (nI (e + 1)) (nI i) x_textLength x_pairCount x_placeCount x_procedureCount x_continuationCount x_frameCount x_state x_ending x_form x_environment x_frame x_value x_applied x_argumentCount x_countedCount x_consCount x_entryCount x_outputCount (nI c) x_text x_firsts x_rests x_placeNames x_placeValues x_placeOuters x_procedureParts x_procedurePlaces x_continuationFrames x_frameTasks x_frameForms x_frameValues x_framePlaces x_frameNexts x_arguments x_outputs kx nx ol := fun post f hf =>
            pre post f 0 hz (br_t rfl (br_t rfl ⟨hie, nm_r ((cl_R ee).trans ex) (br_f hnp hf)⟩))
          by_cases ht2 : t = 2
          · obtain ⟨rfl, rfl⟩ := vp.2.2.2.2.1 ht2
            have hs3 := vp.2.2.1.mp ht2
            subst ht2 hs3
            obtain ⟨cx, kx', nx', ol', cy, ky', ny', pl', h1, h2, h3⟩ := ih (c + 1) e 0 (i + 1) nxt _ _ ol _ _ (vp_updL pl e (zv_c 11 0)) (by omega) (by omega) (by omega) (by omega) (by omega) (by omega) (wr_put (a := 3) (b := 0) hE)
              (fun j hj => by
                obtain ⟨p2, q2, r1, r2, r3⟩ := hS j (by omega)
                exact ⟨p2, q2, r1, by rw [pk_uLn (by omega)]; exact r2, r3⟩) (fun z => by omega)
            refine ⟨cx, kx', nx', ol', cy, ky', ny', pl', h1, fun post h => ?_, fun post h => ?_⟩
            · obtain ⟨f, hf⟩ := h2 post h
              refine ⟨f + 1, hX post f (br_t (by rw [zk_xE]) ?_)⟩
              unfold wX_putEnd_19
              exact xs_putItem (by omega) (nm_r ei (nm_r (nI_1 i) hf))
            · obtain ⟨f, hf⟩ := h3 post h
              exact ⟨f + 1 + 1, yw_rest (by omega) (by omega) (by omega) hpi (fun Q hQ => by rw [ey]; exact yr_empty (by omega) hQ) (yw_close (d := e) (by omega) (by omega) (by rw [pk_uLs]) hf)⟩
          · have hne : ¬ zv_c s l = 12884901888 := by
              rw [zk_xE, zv_eq (by omega) l1 (by decide) (by decide)]
              intro z
              exact ht2 (vp.2.2.1.mpr z.1)
            have hX2 : ∀ (post : SX → Prop) (f : Nat), wX_write_18 post f nxt 0 (nI e) (nI (i + 1)) x_textLength x_pairCount x_placeCount x_procedureCount x_continuationCount x_frameCount x_state x_ending x_form x_environment x_frame x_value x_applied x_argumentCount x_countedCount x_consCount x_entryCount x_outputCount (nI (c + 1 + 1 + 1)) x_text x_firsts x_rests x_placeNames x_placeValues x_placeOuters x_procedureParts x_procedurePlaces x_continuationFrames x_frameTasks x_frameForms x_frameValues x_framePlaces x_frameNexts x_arguments x_outputs (wr_u (wr_u (wr_u kx c 4) (c + 1) (wr_k t)) (c + 1 + 1) 3) (wr_u (wr_u (wr_u nx c 0) (c + 1) (wr_n t k)) (c + 1 + 1) 0) ol → wX_write_18 post (f + 1) nxt 0 (nI (e + 1)) (nI i) x_textLength x_pairCount x_placeCount x_procedureCount x_continuationCount x_frameCount x_state x_ending x_form x_environment x_frame x_value x_applied x_argumentCount x_countedCount x_consCount x_entryCount x_outputCount (nI c) x_text x_firsts x_rests x_placeNames x_placeValues x_placeOuters x_procedureParts x_procedurePlaces x_continuationFrames x_frameTasks x_frameForms x_frameValues x_framePlaces x_frameNexts x_arguments x_outputs kx nx ol := by
              intro post f hf
              refine hX post f (br_f hne (xs_putItem (by omega) (xs_single vK ht2 t2 l1 (by omega) ?_)))
              unfold wX_putEnd_19
              exact xs_putItem (by omega) (nm_r ei (nm_r (nI_1 i) hf))
            have hY1 : ∀ (post : SY → Prop) (f : Nat), wY_write_17 post f (nI (e + 2)) y_size y_pairs y_open y_formCount y_places y_procedures y_continuationCount y_things y_foundCount y_argumentCount y_value y_form y_wherein y_next y_working y_ending y_counts y_made y_entered y_printCount (nI (c + 1)) y_text y_firsts y_rests y_heads y_lasts y_globals y_placeNames y_placeValues y_placeNexts y_procedureForms y_procedurePlaces y_continuations y_whats y_withs y_whereins y_soFars y_afters y_found y_foundNexts y_arguments y_prints (upd ky c 4) (upd ny c 0) (vp_updL (vp_updL pl e (zv_c 11 0)) (e + 1) (zv_c t k)) → wY_write_17 post (f + 1) (nI (e + 1)) y_size y_pairs y_open y_formCount y_places y_procedures y_continuationCount y_things y_foundCount y_argumentCount y_value y_form y_wherein y_next y_working y_ending y_counts y_made y_entered y_printCount (nI c) y_text y_firsts y_rests y_heads y_lasts y_globals y_placeNames y_placeValues y_placeNexts y_procedureForms y_procedurePlaces y_continuations y_whats y_withs y_whereins y_soFars y_afters y_found y_foundNexts y_arguments y_prints ky ny pl := fun post f hf =>
              yw_rest (by omega) (by omega) (by omega) hpi (fun Q hQ => by rw [ey]; exact yr_dot t1 ht2 t2 a1 (by omega) (by omega) hQ) hf
            by_cases hc1 : c = 120
            · exact ⟨c + 1 + 1 + 1, _, _, ol, c + 1, _, _, _, Or.inr ⟨by omega, by omega, by omega, by omega⟩, fun post h => ⟨1 + 1, hX2 post 1 (xw_over (by omega) (by omega) (by omega) h)⟩, fun post h => ⟨1 + 1, hY1 post 1 (yw_over (by omega) (by omega) (by omega) h)⟩⟩
            · have hY2 : ∀ (post : SY → Prop) (f : Nat), wY_write_17 post f (nI (e + 1)) y_size y_pairs y_open y_formCount y_places y_procedures y_continuationCount y_things y_foundCount y_argumentCount y_value y_form y_wherein y_next y_working y_ending y_counts y_made y_entered y_printCount (nI (c + 1 + 1)) y_text y_firsts y_rests y_heads y_lasts y_globals y_placeNames y_placeValues y_placeNexts y_procedureForms y_procedurePlaces y_continuations y_whats y_withs y_whereins y_soFars y_afters y_found y_foundNexts y_arguments y_prints (upd (upd ky c 4) (c + 1) (wr_k t)) (upd (upd ny c 0) (c + 1) (wr_n t k)) (vp_updL (vp_updL pl e (zv_c 11 0)) (e + 1) (zv_c t k)) → wY_write_17 post (f + 1 + 1) (nI (e + 1)) y_size y_pairs y_open y_formCount y_places y_procedures y_continuationCount y_things y_foundCount y_argumentCount y_value y_form y_wherein y_next y_working y_ending y_counts y_made y_entered y_printCount (nI c) y_text y_firsts y_rests y_heads y_lasts y_globals y_placeNames y_placeValues y_placeNexts y_procedureForms y_procedurePlaces y_continuations y_whats y_withs y_whereins y_soFars y_afters y_found y_foundNexts y_arguments y_prints ky ny pl := fun post f hf =>
                hY1 post (f + 1) (yw_single t1 ht2 t2 a1 (by omega) (by omega) (by rw [pk_uLs]) hf)
              by_cases hc2 : c = 119
              · exact ⟨c + 1 + 1 + 1, _, _, ol, c + 1 + 1, _, _, _, Or.inr ⟨by omega, by omega, by omega, by omega⟩, fun post h => ⟨1 + 1, hX2 post 1 (xw_over (by omega) (by omega) (by omega) h)⟩, fun post h => ⟨1 + 1 + 1, hY2 post 1 (yw_over (by omega) (by omega) (by omega) h)⟩⟩
              · obtain ⟨cx, kx', nx', ol', cy, ky', ny', pl', h1, h2, h3⟩ := ih (c + 1 + 1 + 1) e 0 (i + 1) nxt _ _ ol _ _ (vp_updL (vp_updL pl e (zv_c 11 0)) (e + 1) (zv_c t k)) (by omega) (by omega) (by omega) (by omega) (by omega) (by omega) (wr_put (a := 3) (b := 0) (wr_put (a := wr_k t) (b := wr_n t k) (wr_put (a := 4) (b := 0) hE)))
                  (fun j hj => by
                    obtain ⟨p2, q2, r1, r2, r3⟩ := hS j (by omega)
                    exact ⟨p2, q2, r1, by rw [pk_uLn (by omega), pk_uLn (by omega)]; exact r2, r3⟩) (fun z => by omega)
                refine ⟨cx, kx', nx', ol', cy, ky', ny', pl', h1, fun post h => ?_, fun post h => ?_⟩
                · obtain ⟨f, hf⟩ := h2 post h
                  exact ⟨f + 1, hX2 post f hf⟩
                · obtain ⟨f, hf⟩ := h3 post h
                  exact ⟨f + 1 + 1 + 1, hY2 post (f + 1) (yw_close (by omega) (by omega) (by rw [pk_uLn (by omega), pk_uLs]) hf)⟩
end
end
section
/-! X: reading, as one answer -/
section
variable {x_textLength : Int32} {x_pairCount : Int32} {x_placeCount : Int32} {x_procedureCount : Int32} {x_continuationCount : Int32} {x_frameCount : Int32} {x_state : Int32} {x_ending : Int32} {x_form : Int64} {x_environment : Int32} {x_frame : Int32} {x_value : Int64} {x_applied : Int64} {x_argumentCount : Int32} {x_countedCount : Int32} {x_consCount : Int32} {x_entryCount : Int32} {x_outputCount : Int32} {x_itemCount : Int32} {x_text : Nat → Int32} {x_firsts : Nat → Int64} {x_rests : Nat → Int64} {x_placeNames : Nat → Int32} {x_placeValues : Nat → Int64} {x_placeOuters : Nat → Int32} {x_procedureParts : Nat → Int64} {x_procedurePlaces : Nat → Int32} {x_continuationFrames : Nat → Int32} {x_frameTasks : Nat → Int32} {x_frameForms : Nat → Int64} {x_frameValues : Nat → Int64} {x_framePlaces : Nat → Int32} {x_frameNexts : Nat → Int32} {x_arguments : Nat → Int64} {x_outputs : Nat → Int32} {x_itemKinds : Nat → Int32} {x_itemNumbers : Nat → Int32} {x_openLists : Nat → Int64}
variable {T : Nat → Nat} {n : Nat}
theorem xe_rf (hR : pz_Rd T n) (hn : n ≤ 70) (hT : ∀ i, i < n → zv_tk (T i) ∧ x_text i = nI (T i)) :
    ∀ i, i ≤ n → ∀ OL F R, xr_I T n i OL F R → ∃ OL' F' R', xr_I T n 0 OL' F' R' ∧ ∀ post : Int64 → SX → Prop, post (cd_xl T n 0) (x_textLength, nI (pz_W T n), x_placeCount, x_procedureCount, x_continuationCount, x_frameCount, x_state, x_ending, x_form, x_environment, x_frame, x_value, x_applied, x_argumentCount, x_countedCount, x_consCount, x_entryCount, x_outputCount, x_itemCount, x_text, F', R', x_placeNames, x_placeValues, x_placeOuters, x_procedureParts, x_procedurePlaces, x_continuationFrames, x_frameTasks, x_frameForms, x_frameValues, x_framePlaces, x_frameNexts, x_arguments, x_outputs, x_itemKinds, x_itemNumbers, OL') →
      wX_readForms_14 post (i + 1) (cd_xl T n i) (nI (pz_dd T i)) (if i = 0 then -1 else nI (i - 1)) x_textLength (nI (pz_W T n - pz_W T i)) x_placeCount x_procedureCount x_continuationCount x_frameCount x_state x_ending x_form x_environment x_frame x_value x_applied x_argumentCount x_countedCount x_consCount x_entryCount x_outputCount x_itemCount x_text F R x_placeNames x_placeValues x_placeOuters x_procedureParts x_procedurePlaces x_continuationFrames x_frameTasks x_frameForms x_frameValues x_framePlaces x_frameNexts x_arguments x_outputs x_itemKinds x_itemNumbers OL := by
  intro i
  induction i with
  | zero =>
    intro _ OL F R hI
    exact ⟨OL, F, R, hI, fun post hp => br_t (by decide) hp⟩
  | succ i ih =>
    intro hi OL F R hI
    rw [if_neg (by omega), Nat.add_sub_cancel]
    have hb := pz_dd_b (T := T) (i := i + 1)
    have hb0 := pz_dd_b (T := T) (i := i)
    obtain ⟨tk, te⟩ := hT i (by omega)
    have tl : T i < 100 := by unfold zv_tk at tk; omega
    have ec : (nI i).toNatClampNeg = i := nI_clamp (by omega)
    have hW := pz_W_le (T := T) (i := n)
    have hWm := pz_W_mono (T := T) (show i + 1 ≤ n by omega)
    have hWs : pz_W T (i + 1) = pz_W T i + pz_w (T i) := rfl
    have pre := (cl_R ec).trans te
    by_cases c1 : T i = 1
    · obtain ⟨e1, hI2⟩ := xr_1 hR (by omega) c1 hI
      obtain ⟨OL', F', R', g1, g2⟩ := ih (by omega) _ F R hI2
      refine ⟨OL', F', R', g1, fun post hp => ?_⟩
      have := g2 post hp
      rw [xr_l1 c1, ← zk_xE, e1, ← xs_x4] at this
      have hw : pz_W T i = pz_W T (i + 1) := by rw [hWs, c1]; rfl
      rw [hw] at this
      have ed : (nI (pz_dd T (i + 1))).toNatClampNeg = pz_dd T (i + 1) := nI_clamp (by omega)
      refine br_f (nI_pos (by omega)) ⟨vp_in_nI (by omega) (by decide), nm_r pre ?_⟩
      rw [c1]
      exact br_t rfl ⟨vp_in_nI (by omega) (by decide), nm_r (cl_L ed) (nm_r (nI_1 _) (nm_e this))⟩
    · have n1 : ¬ nI (T i) = 1 := fun z => c1 ((nI_eq (a := T i) (b := 1) (by omega) (by omega)).mp z)
      by_cases c0 : T i = 0
      · obtain ⟨e1, e2, e3, hI2⟩ := xr_0 hR (by omega) c0 hI
        obtain ⟨OL', F', R', g1, g2⟩ := ih (by omega) _ _ _ hI2
        refine ⟨OL', F', R', g1, fun post hp => ?_⟩
        have := g2 post hp
        rw [xr_l (by omega) (by omega) c1, ← xs_x4] at this
        have hw : pz_W T n - pz_W T i = pz_W T n - pz_W T (i + 1) + 1 := by rw [hWs, c0] at hWm ⊢; have : pz_w 0 = 1 := rfl; omega
        rw [hw] at this
        have ed : (nI (pz_dd T i)).toNatClampNeg = pz_dd T i := nI_clamp (by omega)
        have e4 : nI (pz_dd T (i + 1)) + (-1) = nI (pz_dd T i) := by rw [e1]; exact pk_m1 _
        refine br_f (nI_pos (by omega)) ⟨vp_in_nI (by omega) (by decide), nm_r pre (br_f n1 ?_)⟩
        rw [c0]
        refine br_t rfl (nm_r e4 ⟨vp_in_nI (by omega) (by decide), ?_⟩)
        rw [(cl_R ed).trans e2]
        exact xs_newPair (by omega) (nm_e this)
      · have n0 : ¬ nI (T i) = 0 := fun z => c0 ((nI_eq (a := T i) (b := 0) (by omega) (by omega)).mp z)
        by_cases c2 : T i = 2
        · obtain ⟨e1, e2, e3, e4, e5, e6, e7, hI2⟩ := xr_2 hR (by omega) c2 hI
          obtain ⟨OL', F', R', g1, g2⟩ := ih (by omega) _ _ _ hI2
          refine ⟨OL', F', R', g1, fun post hp => ?_⟩
          have := g2 post hp
          rw [e5, ← xs_x4, ← e1] at this
          have hw : pz_W T n - pz_W T i = pz_W T n - pz_W T (i + 1) + 1 + 1 := by rw [hWs, c2] at hWm ⊢; have : pz_w 2 = 2 := rfl; omega
          rw [hw] at this
          refine br_f (nI_pos (by omega)) ⟨vp_in_nI (by omega) (by decide), nm_r pre (br_f n1 (br_f n0 ?_))⟩
          rw [c2, e4]
          have hin : vp_in (zv_c 2 (pz_AX T n 0 (i + 1))).toInt32 1400 := zv_in (by omega) (by decide)
          have ea : (zv_c 2 (pz_AX T n 0 (i + 1))).toInt32.toNatClampNeg = pz_AX T n 0 (i + 1) := zv_cl (by omega)
          refine br_t rfl ⟨hin, ?_⟩
          rw [(cl_R ea).trans e7, zk_xE, zk_40]
          exact xs_newPair (by omega) (xs_newPair (by omega) ⟨hin, nm_r (cl_L ea) (nm_e this)⟩)
        · have n2 : ¬ nI (T i) = 2 := fun z => c2 ((nI_eq (a := T i) (b := 2) (by omega) (by omega)).mp z)
          obtain ⟨e1, hI2⟩ := xr_a hR (by omega) (by omega) hI
          obtain ⟨OL', F', R', g1, g2⟩ := ih (by omega) _ _ _ hI2
          refine ⟨OL', F', R', g1, fun post hp => ?_⟩
          have := g2 post hp
          rw [xr_l (by omega) c2 c1, ← xs_x4, ← e1] at this
          have hw : pz_W T n - pz_W T i = pz_W T n - pz_W T (i + 1) + 1 := by
            have : pz_w (T i) = 1 := by unfold pz_w; rw [if_neg c1, if_neg c2]
            rw [hWs, this] at hWm ⊢; omega
          rw [hw] at this
          refine br_f (nI_pos (by omega)) ⟨vp_in_nI (by omega) (by decide), nm_r pre (br_f n1 (br_f n0 (br_f n2 ?_)))⟩
          exact xs_formOf tk (by omega) (xs_newPair (by omega) (nm_e this))
theorem xe_readForms (hR : pz_Rd T n) (hn : n ≤ 70) (hT : ∀ i, i < n → zv_tk (T i) ∧ x_text i = nI (T i)) :
    ∃ OL F R, xr_I T n 0 OL F R ∧ ∀ post : Int64 → SX → Prop, post (cd_xl T n 0) (nI n, nI (pz_W T n), x_placeCount, x_procedureCount, x_continuationCount, x_frameCount, x_state, x_ending, x_form, x_environment, x_frame, x_value, x_applied, x_argumentCount, x_countedCount, x_consCount, x_entryCount, x_outputCount, x_itemCount, x_text, F, R, x_placeNames, x_placeValues, x_placeOuters, x_procedureParts, x_procedurePlaces, x_continuationFrames, x_frameTasks, x_frameForms, x_frameValues, x_framePlaces, x_frameNexts, x_arguments, x_outputs, x_itemKinds, x_itemNumbers, OL) → wpX_readForms post (nI n, 0, x_placeCount, x_procedureCount, x_continuationCount, x_frameCount, x_state, x_ending, x_form, x_environment, x_frame, x_value, x_applied, x_argumentCount, x_countedCount, x_consCount, x_entryCount, x_outputCount, x_itemCount, x_text, x_firsts, x_rests, x_placeNames, x_placeValues, x_placeOuters, x_procedureParts, x_procedurePlaces, x_continuationFrames, x_frameTasks, x_frameForms, x_frameValues, x_framePlaces, x_frameNexts, x_arguments, x_outputs, x_itemKinds, x_itemNumbers, x_openLists) := by
  obtain ⟨OL, F, R, h1, h2⟩ := xe_rf (x_textLength := nI n) (x_placeCount := x_placeCount) (x_procedureCount := x_procedureCount) (x_continuationCount := x_continuationCount) (x_frameCount := x_frameCount) (x_state := x_state) (x_ending := x_ending) (x_form := x_form) (x_environment := x_environment) (x_frame := x_frame) (x_value := x_value) (x_applied := x_applied) (x_argumentCount := x_argumentCount) (x_countedCount := x_countedCount) (x_consCount := x_consCount) (x_entryCount := x_entryCount) (x_outputCount := x_outputCount) (x_itemCount := x_itemCount) (x_placeNames := x_placeNames) (x_placeValues := x_placeValues) (x_placeOuters := x_placeOuters) (x_procedureParts := x_procedureParts) (x_procedurePlaces := x_procedurePlaces) (x_continuationFrames := x_continuationFrames) (x_frameTasks := x_frameTasks) (x_frameForms := x_frameForms) (x_frameValues := x_frameValues) (x_framePlaces := x_framePlaces) (x_frameNexts := x_frameNexts) (x_arguments := x_arguments) (x_outputs := x_outputs) (x_itemKinds := x_itemKinds) (x_itemNumbers := x_itemNumbers) hR hn hT n (Nat.le_refl _) x_openLists x_firsts x_rests xr_start
  refine ⟨OL, F, R, h1, fun post hp => ?_⟩
  have h := h2 post hp
  rw [Nat.sub_self, xr_ln, hR.2.1, ← xs_x4, ← zk_xE] at h
  exact nm_r (Int32.sub_eq_add_neg (nI n) 1) ⟨n + 1, h⟩
end
end
section
/-! Y: putting a form, as one answer -/
section
variable {y_size : Int32} {y_pairs : Int32} {y_open : Int32} {y_formCount : Int32} {y_places : Int32} {y_procedures : Int32} {y_continuationCount : Int32} {y_things : Int32} {y_foundCount : Int32} {y_argumentCount : Int32} {y_value : Int64} {y_form : Int64} {y_wherein : Int32} {y_next : Int32} {y_working : Int32} {y_ending : Int32} {y_counts : Int32} {y_made : Int32} {y_entered : Int32} {y_printCount : Int32} {y_itemCount : Int32} {y_text : Nat → Int32} {y_firsts : Nat → Int64} {y_rests : Nat → Int64} {y_heads : Nat → Int32} {y_lasts : Nat → Int32} {y_globals : Nat → Int64} {y_placeNames : Nat → Int32} {y_placeValues : Nat → Int64} {y_placeNexts : Nat → Int32} {y_procedureForms : Nat → Int64} {y_procedurePlaces : Nat → Int32} {y_continuations : Nat → Int32} {y_whats : Nat → Int32} {y_withs : Nat → Int64} {y_whereins : Nat → Int32} {y_soFars : Nat → Int32} {y_afters : Nat → Int32} {y_found : Nat → Int64} {y_foundNexts : Nat → Int32} {y_arguments : Nat → Int64} {y_prints : Nat → Int32} {y_itemKinds : Nat → Int32} {y_itemNumbers : Nat → Int32} {y_pile : Nat → Int64}
variable {T : Nat → Nat} {n t b m py fc : Nat} {o : Nat → Nat} {H L : Nat → Int32} {F R : Nat → Int64}
theorem ye_put_e {k f : Nat} {F' R' : Nat → Int64} (hn : n ≤ 70) (ht : t + 1 ≤ n)
    (hb : (3 ≤ T b ∧ t + 1 = b + 1) ∨ (T b = 0 ∧ b + 1 < t + 1 ∧ T (t + 1 - 1) = 1 ∧ pz_dd T (t + 1) = pz_dd T b ∧ ∀ j, b < j → j < t + 1 → pz_dd T b < pz_dd T j))
    (hs : ∀ k, k < m → yr_sg T n o H L k) (ho : ∀ k, k ≤ m → o k ≤ t) (hH : yr_H T n t F R) (hm : m ≤ 71) (hB : pz_P T t + 2 * m ≤ 2 * t + 2)

    (hk : k < m) (hne : H k ≠ -2) (h1 : o (k + 1) ≤ b) (h2 : ∀ j, o (k + 1) ≤ j → j < b → T j = 2) (hF : ∀ a, a < pz_P T t → F' a = F a) (hR : ∀ a, a < pz_P T t → R' a = R a)
    (hQ : ∀ j, T j = 2 → o (k + 1) ≤ j → j < b → F' (pz_AY T n 1 j) = zv_c 4 40 ∧ R' (pz_AY T n 1 j) = zv_c 3 (pz_AY T n 2 j) ∧ F' (pz_AY T n 2 j) = cd_yv T n (j + 1) ∧ R' (pz_AY T n 2 j) = zv_c 2 0)
    (hc : 2 * (b - o (k + 1)) + 2 * (k + 1) ≤ 2 * m) :
    ∃ H' L' F2 R2, yr_H T n (t + 1) F2 R2 ∧ (∀ i, i ≤ k → yr_sg T n (fun i => if i = k + 1 then t + 1 else o i) H' L' i) ∧ (pz_dd T (t + 1) = 0 ↔ k = 0) ∧ pz_P T (t + 1) + 2 * (k + 1) ≤ 2 * (t + 1) + 2 ∧
      ∀ post : SY → Prop, post (y_size, nI (pz_P T (t + 1)), nI (k + 1), nI (if k = 0 then fc + 1 else fc), y_places, y_procedures, y_continuationCount, y_things, y_foundCount, y_argumentCount, y_value, y_form, y_wherein, y_next, y_working, y_ending, y_counts, y_made, y_entered, y_printCount, y_itemCount, y_text, F2, R2, H', L', y_globals, y_placeNames, y_placeValues, y_placeNexts, y_procedureForms, y_procedurePlaces, y_continuations, y_whats, y_withs, y_whereins, y_soFars, y_afters, y_found, y_foundNexts, y_arguments, y_prints, y_itemKinds, y_itemNumbers, y_pile) →
    wY_put_2 post (f + 1) (cd_yv T n (o (k + 1))) y_size (nI (pz_P T t + 2 * (b - o (k + 1)))) (nI (k + 1)) (nI fc) y_places y_procedures y_continuationCount y_things y_foundCount y_argumentCount y_value y_form y_wherein y_next y_working y_ending y_counts y_made y_entered y_printCount y_itemCount y_text (F') (R') H L y_globals y_placeNames y_placeValues y_placeNexts y_procedureForms y_procedurePlaces y_continuations y_whats y_withs y_whereins y_soFars y_afters y_found y_foundNexts y_arguments y_prints y_itemKinds y_itemNumbers y_pile := by
  have hP := pz_P_le (T := T) n hn
  have hPt : pz_P T (t + 1) = pz_P T t + (1 + 2 * pz_qn T b) := by
    have := pz_P_s hb
    rw [Nat.add_sub_cancel] at this
    exact this
  have hFm : pz_Fm T (o (k + 1)) (t + 1) := ⟨b, h1, h2, hb⟩
  have hsk := hs k hk
  have hmk := yr_sg_nmk hsk hne
  have hq := pz_qn_eq h2 hmk h1
  obtain ⟨b', x1, x2, x3, x4, x5, x6, x7, x8, _, _⟩ := yr_ad hFm ht
  have hbb : b = b' := by
    have := pz_cb_eq hb
    exact this.symm.trans x5
  subst hbb
  rw [Nat.add_sub_cancel] at x8
  rw [hq] at x8 hPt
  have hmono := pz_P_mono (T := T) ht
  generalize hcc : pz_P T t + 2 * (b - o (k + 1)) = c at *
  have hdd : pz_dd T (t + 1) = 0 ↔ k = 0 := by
    obtain ⟨g1, _, g3, _⟩ := yr_sg_l hsk hne
    rw [pz_Fm_dd hFm, g3]
    unfold yr_s
    by_cases z : k = 0
    · rw [if_pos z]
      exact ⟨fun _ => z, fun _ => rfl⟩
    · rw [if_neg z, pz_dd_o (by omega)]
      omega
  have hbd : pz_P T (t + 1) + 2 * (k + 1) ≤ 2 * (t + 1) + 2 := by omega
  have hF2 : ∀ a, a < pz_P T t → vp_updL F' c (cd_yv T n (o (k + 1))) a = F a := fun a ha => by
    rw [pk_uLn (by omega)]; exact hF a ha
  have hR2 : ∀ a, a < pz_P T t → vp_updL R' c (zv_c 2 0) a = R a := fun a ha => by
    rw [pk_uLn (by omega)]; exact hR a ha
  have hQ2 : ∀ j, T j = 2 → o (k + 1) ≤ j → pz_Fm T j (t + 1) → vp_updL F' c (cd_yv T n (o (k + 1))) (pz_AY T n 1 j) = zv_c 4 40 ∧ vp_updL R' c (zv_c 2 0) (pz_AY T n 1 j) = zv_c 3 (pz_AY T n 2 j) ∧ vp_updL F' c (cd_yv T n (o (k + 1))) (pz_AY T n 2 j) = cd_yv T n (j + 1) ∧ vp_updL R' c (zv_c 2 0) (pz_AY T n 2 j) = zv_c 2 0 := by
    intro j j1 j2 j3
    obtain ⟨b2, y1, y2, y3, y4, y5, _⟩ := yr_ad j3 ht
    have hb2 : b = b2 := x5.symm.trans y5
    subst hb2
    have hs2 := yr_sep2 hFm j3 ht j1
    rw [x8] at hs2
    rw [pk_uLn hs2.1.symm, pk_uLn hs2.1.symm, pk_uLn hs2.2.symm, pk_uLn hs2.2.symm]
    exact hQ j j1 j2 (by
      have : j ≠ b := fun z => y4 (z ▸ j1)
      omega)
  have hE2 : vp_updL F' c (cd_yv T n (o (k + 1))) (pz_AY T n 0 (o (k + 1))) = cd_yv T n (o (k + 1)) ∧ vp_updL R' c (zv_c 2 0) (pz_AY T n 0 (o (k + 1))) = zv_c 2 0 := by
    rw [x8, pk_uLs, pk_uLs]
    exact ⟨rfl, rfl⟩
  have hlow : ∀ (H' L' : Nat → Int32), (∀ i, i < k → H' i = H i ∧ L' i = L i) → yr_sg T n (fun i => if i = k + 1 then t + 1 else o i) H' L' k → ∀ i, i ≤ k → yr_sg T n (fun i => if i = k + 1 then t + 1 else o i) H' L' i := by
    intro H' L' g1 g2 i hi
    by_cases z : i = k
    · rw [z]; exact g2
    · exact yr_sg_low (hs i (by omega)) (if_neg (by omega)) (if_neg (by omega)) (g1 i (by omega)).1 (g1 i (by omega)).2
  have ek : (nI k).toNatClampNeg = k := nI_clamp (by omega)
  have hik : vp_in (nI k) 72 := vp_in_nI (by omega) (by decide)
  have hPc : pz_P T (t + 1) = c + 1 := by omega
  have hik' : vp_in (nI (k + 1) - 1) 72 := by rw [nI_pred]; exact hik
  have ek' : (nI (k + 1) - 1).toNatClampNeg = k := by rw [nI_pred, ek]
  have hne' : ¬ H (nI (k + 1) - 1).toNatClampNeg = -2 := by rw [ek']; exact hne
  obtain ⟨g1, g2, g3, g4, ⟨g5, g6, g7⟩ | ⟨e', p', g5, g6, g7, g8, g9, g10, g11⟩⟩ := yr_sg_l hsk hne
  · refine ⟨upd H k (nI c), upd L k (nI c), _, _, yr_put0 hH ht hFm hmk (fun q => ?_) hF2 hR2 hQ2 hE2, hlow _ _ (fun i hi => ⟨pk_un (by omega), pk_un (by omega)⟩) ?_, hdd, hbd, fun post hp => ?_⟩
    · rw [← g5]; exact yr_s_nF g1 q
    rotate_left
    · rw [hPc] at hp
      exact ⟨hik', br_f hne' (ys_thing (t := 2) (k := 0) rfl rfl (by decide) (by decide) (ys_pair (py := c) (by omega) ⟨hik', br_f (by rw [ek', g7]; decide) ⟨hik', nm_r (cl_I ek') (ys_134 (by omega) hp)⟩⟩))⟩
    · refine yr_sg_put hsk hne hFm ht (if_neg (by omega)) (if_pos rfl) (by rw [pk_us, x8]) (by rw [pk_us, g7, if_pos rfl, x8]) (by omega)
  · have hl := yr_lt (n := n) (t := t) g7 (by have := pz_Fm_lt hFm; omega) (by have := pz_Fm_lt hFm; omega)
    have ep : (L (nI (k + 1) - 1).toNatClampNeg).toNatClampNeg = pz_AY T n 0 p' := by rw [ek', g11]; exact nI_clamp (by omega)
    have hput := yr_put1 hH ht hFm hmk g7 g9 hF2 hR2 hQ2 hE2
    rw [x8] at hput
    refine ⟨H, upd L k (nI c), _, _, hput, hlow _ _ (fun i hi => ⟨rfl, pk_un (by omega)⟩) ?_, hdd, hbd, fun post hp => ?_⟩
    rotate_left
    · rw [hPc] at hp
      exact ⟨hik', br_f hne' (ys_thing (t := 2) (k := 0) rfl rfl (by decide) (by decide) (ys_pair (py := c) (by omega) ⟨hik', br_t (by rw [ek', g11]; exact nI_pos' (by omega)) ⟨hik', ys_thing (t := 3) (k := c) rfl rfl (by decide) (by omega) ⟨by rw [ek', g11]; exact vp_in_nI (by omega) (by decide), nm_r (cl_L ep) (ys_134 (by omega) hp)⟩⟩⟩))⟩
    · refine yr_sg_put hsk hne hFm ht (if_neg (by omega)) (if_pos rfl) (by rw [pk_us, x8]) (by rw [g11, if_neg (yr_n2 (by omega)).2]) (by omega)
theorem ye_put_l (hn : n ≤ 70) (ht : t + 1 ≤ n)
    (hb : (3 ≤ T b ∧ t + 1 = b + 1) ∨ (T b = 0 ∧ b + 1 < t + 1 ∧ T (t + 1 - 1) = 1 ∧ pz_dd T (t + 1) = pz_dd T b ∧ ∀ j, b < j → j < t + 1 → pz_dd T b < pz_dd T j))
    (hs : ∀ k, k < m → yr_sg T n o H L k) (ho : ∀ k, k ≤ m → o k ≤ t) (hH : yr_H T n t F R) (hm : m ≤ 71) (hB : pz_P T t + 2 * m ≤ 2 * t + 2)
 :
    ∀ k, k < m → o (k + 1) ≤ b → (∀ j, o (k + 1) ≤ j → j < b → T j = 2) → ∀ F' R', (∀ a, a < pz_P T t → F' a = F a) → (∀ a, a < pz_P T t → R' a = R a) →
      (∀ j, T j = 2 → o (k + 1) ≤ j → j < b → F' (pz_AY T n 1 j) = zv_c 4 40 ∧ R' (pz_AY T n 1 j) = zv_c 3 (pz_AY T n 2 j) ∧ F' (pz_AY T n 2 j) = cd_yv T n (j + 1) ∧ R' (pz_AY T n 2 j) = zv_c 2 0) →
      2 * (b - o (k + 1)) + 2 * (k + 1) ≤ 2 * m →
      ∃ k' H' L' F2 R2, k' ≤ k ∧ yr_H T n (t + 1) F2 R2 ∧ (∀ i, i ≤ k' → yr_sg T n (fun i => if i = k' + 1 then t + 1 else o i) H' L' i) ∧ (pz_dd T (t + 1) = 0 ↔ k' = 0) ∧ pz_P T (t + 1) + 2 * (k' + 1) ≤ 2 * (t + 1) + 2 ∧
      ∀ post : SY → Prop, post (y_size, nI (pz_P T (t + 1)), nI (k' + 1), nI (if k' = 0 then fc + 1 else fc), y_places, y_procedures, y_continuationCount, y_things, y_foundCount, y_argumentCount, y_value, y_form, y_wherein, y_next, y_working, y_ending, y_counts, y_made, y_entered, y_printCount, y_itemCount, y_text, F2, R2, H', L', y_globals, y_placeNames, y_placeValues, y_placeNexts, y_procedureForms, y_procedurePlaces, y_continuations, y_whats, y_withs, y_whereins, y_soFars, y_afters, y_found, y_foundNexts, y_arguments, y_prints, y_itemKinds, y_itemNumbers, y_pile) →
      wY_put_2 post (k + 2) (cd_yv T n (o (k + 1))) y_size (nI (pz_P T t + 2 * (b - o (k + 1)))) (nI (k + 1)) (nI fc) y_places y_procedures y_continuationCount y_things y_foundCount y_argumentCount y_value y_form y_wherein y_next y_working y_ending y_counts y_made y_entered y_printCount y_itemCount y_text (F') (R') H L y_globals y_placeNames y_placeValues y_placeNexts y_procedureForms y_procedurePlaces y_continuations y_whats y_withs y_whereins y_soFars y_afters y_found y_foundNexts y_arguments y_prints y_itemKinds y_itemNumbers y_pile := by
  intro k
  have hP := pz_P_le (T := T) n hn
  induction k with
  | zero =>
    intro hk h1 h2 F' R' hF hR hQ hc
    by_cases hne : H 0 = -2
    · have := (yr_sg_q (hs 0 hk) hne (by have := ho 1 (by omega); omega) (by omega)).1
      omega
    · obtain ⟨H', L', F2, R2, g1, g2, g3, g4, g5⟩ := ye_put_e (fc := fc) (f := 1) (y_size := y_size) (y_places := y_places) (y_procedures := y_procedures) (y_continuationCount := y_continuationCount) (y_things := y_things) (y_foundCount := y_foundCount) (y_argumentCount := y_argumentCount) (y_value := y_value) (y_form := y_form) (y_wherein := y_wherein) (y_next := y_next) (y_working := y_working) (y_ending := y_ending) (y_counts := y_counts) (y_made := y_made) (y_entered := y_entered) (y_printCount := y_printCount) (y_itemCount := y_itemCount) (y_text := y_text) (y_globals := y_globals) (y_placeNames := y_placeNames) (y_placeValues := y_placeValues) (y_placeNexts := y_placeNexts) (y_procedureForms := y_procedureForms) (y_procedurePlaces := y_procedurePlaces) (y_continuations := y_continuations) (y_whats := y_whats) (y_withs := y_withs) (y_whereins := y_whereins) (y_soFars := y_soFars) (y_afters := y_afters) (y_found := y_found) (y_foundNexts := y_foundNexts) (y_arguments := y_arguments) (y_prints := y_prints) (y_itemKinds := y_itemKinds) (y_itemNumbers := y_itemNumbers) (y_pile := y_pile) hn ht hb hs ho hH hm hB hk hne h1 h2 hF hR hQ hc
      exact ⟨_, H', L', F2, R2, Nat.le_refl _, g1, g2, g3, g4, g5⟩
  | succ k ih =>
    intro hk h1 h2 F' R' hF hR hQ hc
    by_cases hne : H (k + 1) = -2
    · obtain ⟨_, q1, q2⟩ := yr_sg_q (hs (k + 1) hk) hne (by have := ho (k + 2) (by omega); omega) (by omega)
      have hq : ∀ j, o (k + 1) ≤ j → j < b → T j = 2 := by
        intro j j1 j2
        by_cases z : j = o (k + 1)
        · rw [z]; exact q1
        · exact h2 j (by omega) j2
      have hFm : pz_Fm T (o (k + 1)) (t + 1) := ⟨b, by omega, hq, hb⟩
      obtain ⟨b', x1, x2, x3, x4, x5, x6, x7, _, x9, x10⟩ := yr_ad hFm ht
      have hbb : b = b' := by
        have := pz_cb_eq hb
        exact this.symm.trans x5
      subst hbb
      rw [Nat.add_sub_cancel] at x9 x10
      have hc0 : pz_P T t + 2 * (b - o (k + 1 + 1)) = pz_AY T n 2 (o (k + 1)) := by rw [x10]; omega
      have hc1 : pz_AY T n 1 (o (k + 1)) = pz_AY T n 2 (o (k + 1)) + 1 := by omega
      have hc2 : pz_P T t + 2 * (b - o (k + 1)) = pz_AY T n 2 (o (k + 1)) + 1 + 1 := by omega
      have hlt : pz_AY T n 2 (o (k + 1)) < 200 := by omega
      have hge : pz_P T t ≤ pz_AY T n 2 (o (k + 1)) := by omega
      have hv : cd_yv T n (o (k + 1)) = zv_c 3 (pz_AY T n 1 (o (k + 1))) := cd_yv_2 q1
      have ek : (nI (k + 1)).toNatClampNeg = k + 1 := nI_clamp (by omega)
      have hik : vp_in (nI (k + 1)) 72 := vp_in_nI (by omega) (by decide)
      have hrec := ih (by omega) (by omega) hq
        (vp_updL (vp_updL F' (pz_AY T n 2 (o (k + 1))) (cd_yv T n (o (k + 1 + 1)))) (pz_AY T n 2 (o (k + 1)) + 1) (zv_c 4 40))
        (vp_updL (vp_updL R' (pz_AY T n 2 (o (k + 1))) (zv_c 2 0)) (pz_AY T n 2 (o (k + 1)) + 1) (zv_c 3 (pz_AY T n 2 (o (k + 1)))))
        (fun a ha => by rw [pk_uLn (by omega), pk_uLn (by omega)]; exact hF a ha)
        (fun a ha => by rw [pk_uLn (by omega), pk_uLn (by omega)]; exact hR a ha)
        (fun j j1 j2 j3 => by
          by_cases z : j = o (k + 1)
          · subst z
            rw [hc1, pk_uLs, pk_uLs, pk_uLn (by omega), pk_uLs, pk_uLn (by omega), pk_uLs, q2]
            exact ⟨rfl, rfl, rfl, rfl⟩
          · have hFj : pz_Fm T j (t + 1) := ⟨b, by omega, fun i i1 i2 => hq i (by omega) i2, hb⟩
            obtain ⟨b2, y1, y2, y3, y4, y5, _, _, _, y9, y10⟩ := yr_ad hFj ht
            have hb2 : b = b2 := x5.symm.trans y5
            subst hb2
            rw [Nat.add_sub_cancel] at y9 y10
            rw [pk_uLn (by omega), pk_uLn (by omega), pk_uLn (by omega), pk_uLn (by omega), pk_uLn (by omega), pk_uLn (by omega), pk_uLn (by omega), pk_uLn (by omega)]
            exact hQ j j1 (by omega) j3)
        (by omega)
      obtain ⟨k', H', L', F2, R2, r0, r1, r2, r3, r4, r5⟩ := hrec
      refine ⟨k', H', L', F2, R2, by omega, r1, r2, r3, r4, fun post hp => ?_⟩
      have hrec := r5 post hp
      rw [hc2, hv, hc1] at hrec
      have hik' : vp_in (nI (k + 1 + 1) - 1) 72 := by rw [nI_pred]; exact hik
      have hne' : H (nI (k + 1 + 1) - 1).toNatClampNeg = -2 := by rw [nI_pred, ek]; exact hne
      rw [hc0]
      refine ⟨hik', br_t hne' (ys_thing (t := 2) (k := 0) rfl rfl (by decide) (by decide) (ys_pair (by omega) (ys_thing (t := 3) rfl rfl (by decide) (by omega) (ys_thing (t := 4) (k := 40) rfl rfl (by decide) (by decide)
        (ys_pair (by omega) (ys_thing (t := 3) rfl rfl (by decide) (by omega) (nm_r (nI_pred _) hrec)))))))⟩
    · obtain ⟨H', L', F2, R2, g1, g2, g3, g4, g5⟩ := ye_put_e (fc := fc) (f := k + 2) (y_size := y_size) (y_places := y_places) (y_procedures := y_procedures) (y_continuationCount := y_continuationCount) (y_things := y_things) (y_foundCount := y_foundCount) (y_argumentCount := y_argumentCount) (y_value := y_value) (y_form := y_form) (y_wherein := y_wherein) (y_next := y_next) (y_working := y_working) (y_ending := y_ending) (y_counts := y_counts) (y_made := y_made) (y_entered := y_entered) (y_printCount := y_printCount) (y_itemCount := y_itemCount) (y_text := y_text) (y_globals := y_globals) (y_placeNames := y_placeNames) (y_placeValues := y_placeValues) (y_placeNexts := y_placeNexts) (y_procedureForms := y_procedureForms) (y_procedurePlaces := y_procedurePlaces) (y_continuations := y_continuations) (y_whats := y_whats) (y_withs := y_withs) (y_whereins := y_whereins) (y_soFars := y_soFars) (y_afters := y_afters) (y_found := y_found) (y_foundNexts := y_foundNexts) (y_arguments := y_arguments) (y_prints := y_prints) (y_itemKinds := y_itemKinds) (y_itemNumbers := y_itemNumbers) (y_pile := y_pile) hn ht hb hs ho hH hm hB hk hne h1 h2 hF hR hQ hc
      exact ⟨_, H', L', F2, R2, Nat.le_refl _, g1, g2, g3, g4, g5⟩
end
end
section
/-! Y: reading, as one answer -/
def ye_G (T : Nat → Nat) (n : Nat) (r a b c : Int32) (F R : Nat → Int64) (H : Nat → Int32) : Prop :=
  (r = 1 ∧ pz_Rd T n ∧ a = nI (pz_P T n) ∧ b = 1 ∧ c = nI (pz_ww T n) ∧ yr_H T n n F R ∧ (0 < n → H 0 = nI (pz_AY T n 0 0)) ∧ pz_P T n ≤ 2 * n) ∨ (r = 0 ∧ ¬ pz_Rd T n)
section
variable {y_size : Int32} {y_pairs : Int32} {y_open : Int32} {y_formCount : Int32} {y_places : Int32} {y_procedures : Int32} {y_continuationCount : Int32} {y_things : Int32} {y_foundCount : Int32} {y_argumentCount : Int32} {y_value : Int64} {y_form : Int64} {y_wherein : Int32} {y_next : Int32} {y_working : Int32} {y_ending : Int32} {y_counts : Int32} {y_made : Int32} {y_entered : Int32} {y_printCount : Int32} {y_itemCount : Int32} {y_text : Nat → Int32} {y_firsts : Nat → Int64} {y_rests : Nat → Int64} {y_heads : Nat → Int32} {y_lasts : Nat → Int32} {y_globals : Nat → Int64} {y_placeNames : Nat → Int32} {y_placeValues : Nat → Int64} {y_placeNexts : Nat → Int32} {y_procedureForms : Nat → Int64} {y_procedurePlaces : Nat → Int32} {y_continuations : Nat → Int32} {y_whats : Nat → Int32} {y_withs : Nat → Int64} {y_whereins : Nat → Int32} {y_soFars : Nat → Int32} {y_afters : Nat → Int32} {y_found : Nat → Int64} {y_foundNexts : Nat → Int32} {y_arguments : Nat → Int64} {y_prints : Nat → Int32} {y_itemKinds : Nat → Int32} {y_itemNumbers : Nat → Int32} {y_pile : Nat → Int64}
variable {T : Nat → Nat} {n : Nat}
theorem ye_rd (hn : n ≤ 70) (hT : ∀ i, i < n → zv_tk (T i) ∧ y_text i = nI (T i)) :
    ∀ d t, t + d = n → (∀ j, j < t → pz_ok T j) → ∀ m o H L F R, 1 ≤ m → m ≤ t + 1 → o m = t → (∀ k, k ≤ m → o k ≤ t) → (∀ k, k < m → yr_sg T n o H L k) → yr_H T n t F R → pz_P T t + 2 * m ≤ 2 * t + 2 →
      ∃ r a b c F' R' H' L', ye_G T n r a b c F' R' H' ∧ ∀ post : Int32 → SY → Prop, post r (nI n, a, b, c, y_places, y_procedures, y_continuationCount, y_things, y_foundCount, y_argumentCount, y_value, y_form, y_wherein, y_next, y_working, y_ending, y_counts, y_made, y_entered, y_printCount, y_itemCount, y_text, F', R', H', L', y_globals, y_placeNames, y_placeValues, y_placeNexts, y_procedureForms, y_procedurePlaces, y_continuations, y_whats, y_withs, y_whereins, y_soFars, y_afters, y_found, y_foundNexts, y_arguments, y_prints, y_itemKinds, y_itemNumbers, y_pile) →
        wY_read_22 post (d + 1) (nI t) (nI n) (nI (pz_P T t)) (nI m) (nI (pz_ww T t)) y_places y_procedures y_continuationCount y_things y_foundCount y_argumentCount y_value y_form y_wherein y_next y_working y_ending y_counts y_made y_entered y_printCount y_itemCount y_text F R H L y_globals y_placeNames y_placeValues y_placeNexts y_procedureForms y_procedurePlaces y_continuations y_whats y_withs y_whereins y_soFars y_afters y_found y_foundNexts y_arguments y_prints y_itemKinds y_itemNumbers y_pile := by
  have hP := pz_P_le (T := T) n hn
  intro d
  induction d with
  | zero =>
    intro t ht hok m o H L F R m1 m2 om ho hs hH hB
    have htn : t = n := by omega
    subst htn
    by_cases c : m = 1
    · subst c
      have s0 := hs 0 (by omega)
      have top := yr_top0 s0
      rw [om] at top
      refine ⟨1, _, 1, _, F, R, H, L, Or.inl ⟨rfl, ⟨hok, top⟩, rfl, rfl, rfl, hH, fun hn0 => ?_, by omega⟩, fun post h => br_t (nI_le (Nat.le_refl _) (by omega)) (br_t rfl h)⟩
      rcases s0 with ⟨a, _⟩ | ⟨_, _, _, _, ⟨a, _⟩ | ⟨e, p, a1, a2, a3, a4, a5, a6, a7⟩⟩
      · omega
      · have h0 : 0 = o 1 := a
        omega
      · exact a6
    · refine ⟨0, nI (pz_P T t), nI m, nI (pz_ww T t), F, R, H, L, Or.inr ⟨rfl, fun hR => ?_⟩, fun post h => br_t (nI_le (Nat.le_refl _) (by omega)) (br_f (fun z => c ((nI_eq (a := m) (b := 1) (by omega) (by omega)).mp z)) h)⟩
      have sk := hs (m - 1) (by omega)
      have om' : o (m - 1 + 1) = t := by rw [show m - 1 + 1 = m by omega]; exact om
      by_cases hne : H (m - 1) = -2
      · have := yr_topq sk hne (by omega) (by omega)
        rw [om'] at this
        exact hR.2.2 this
      · have := yr_topl sk hne (by omega)
        rw [om', hR.2.1] at this
        omega
  | succ d ih =>
    intro t ht hok m o H L F R m1 m2 om ho hs hH hB
    obtain ⟨tk, te⟩ := hT t (by omega)
    have tl : T t < 100 := by unfold zv_tk at tk; omega
    have ec : (nI t).toNatClampNeg = t := nI_clamp (by omega)
    have okn : pz_ok T t → ∀ j, j < t + 1 → pz_ok T j := by
      intro z j hj
      by_cases y : j = t
      · rw [y]; exact z
      · exact hok j (by omega)
    have pre : y_text (nI t).toNatClampNeg = nI (T t) := (cl_R ec).trans te
    have hsz : ¬ nI n ≤ nI t := nI_ge (by omega) (by omega)
    have hit : vp_in (nI t) 70 := vp_in_nI (by omega) (by decide)
    by_cases hbg : T t = 0 ∨ T t = 2
    · -- something begins
      obtain ⟨z, hz⟩ : ∃ z : Int32, (T t = 0 ∧ z = -1) ∨ (T t = 2 ∧ z = -2) := by
        rcases hbg with h | h
        · exact ⟨-1, Or.inl ⟨h, rfl⟩⟩
        · exact ⟨-2, Or.inr ⟨h, rfl⟩⟩
      have hPs : pz_P T (t + 1) = pz_P T t := by rw [pz_P, if_pos hbg]; rfl
      have hws : pz_ww T (t + 1) = pz_ww T t := by
        rw [pz_ww, if_neg]
        intro y
        rcases hz with hz | hz
        · rw [pz_dd_o hz.1] at y; omega
        · exact y.2 hz.1
      obtain ⟨r, a, b, c, F', R', H', L', g1, g2⟩ := ih (t + 1) (by omega) (okn (fun y => by omega)) (m + 1) (fun i => if i = m + 1 then t + 1 else o i) (upd H m z) (upd L m (-1)) F R (by omega) (by omega) (if_pos rfl)
        (fun k hk => by
          split
          · omega
          · have := ho k (by omega); omega)
        (fun k hk => by
          by_cases y : k = m
          · subst y
            have e1 : (fun i => if i = k + 1 then t + 1 else o i) k = t := by
              dsimp only
              rw [if_neg (by omega), om]
            have e2 : (fun i => if i = k + 1 then t + 1 else o i) (k + 1) = t + 1 := if_pos rfl
            have e3 : yr_s (fun i => if i = k + 1 then t + 1 else o i) k = t + 1 := by
              unfold yr_s
              rw [if_neg (by omega), e1]
            unfold yr_sg
            rw [e1, e2, e3, pk_us, pk_us]
            rcases hz with ⟨z1, z2⟩ | ⟨z1, z2⟩
            · exact Or.inr ⟨Or.inr z1, Nat.le_refl _, rfl, fun j j1 j2 => by rw [show j = t + 1 by omega]; exact Nat.le_refl _, Or.inl ⟨rfl, z2, rfl⟩⟩
            · exact Or.inl ⟨m1, z1, z2, rfl⟩
          · exact yr_sg_low (hs k (by omega)) (if_neg (by omega)) (if_neg (by omega)) (pk_un y) (pk_un y))
        (yr_Hs hH (by omega)) (by omega)
      refine ⟨r, a, b, c, F', R', H', L', g1, fun post h => br_f hsz ⟨hit, nm_r pre ?_⟩⟩
      have := g2 post h
      rw [hPs, hws] at this
      have h57 : wY_read_57 post (wY_read_22 post (d + 1)) (nI t) z (nI n) (nI (pz_P T t)) (nI m) (nI (pz_ww T t)) y_places y_procedures y_continuationCount y_things y_foundCount y_argumentCount y_value y_form y_wherein y_next y_working y_ending y_counts y_made y_entered y_printCount y_itemCount y_text F R H L y_globals y_placeNames y_placeValues y_placeNexts y_procedureForms y_procedurePlaces y_continuations y_whats y_withs y_whereins y_soFars y_afters y_found y_foundNexts y_arguments y_prints y_itemKinds y_itemNumbers y_pile := by
        unfold wY_read_57
        exact ys_openList (by omega) (nm_r (nI_1 t) this)
      rcases hz with ⟨z1, rfl⟩ | ⟨z1, rfl⟩
      · rw [z1]
        exact br_t rfl (br_t rfl h57)
      · rw [z1]
        exact br_f (by decide) (br_t rfl (br_f (by decide) h57))
    · have c0 : T t ≠ 0 := fun z => hbg (Or.inl z)
      have c2 : T t ≠ 2 := fun z => hbg (Or.inr z)
      have n0 : ¬ nI (T t) = 0 := ne_I (b := 0) c0 (by omega) (by decide)
      have n2 : ¬ nI (T t) = 2 := ne_I (b := 2) c2 (by omega) (by decide)
      have hput : ∀ m' b, m' ≤ m → 1 ≤ m' → o m' = b → pz_ok T t → ((3 ≤ T b ∧ t + 1 = b + 1) ∨ (T b = 0 ∧ b + 1 < t + 1 ∧ T (t + 1 - 1) = 1 ∧ pz_dd T (t + 1) = pz_dd T b ∧ ∀ j, b < j → j < t + 1 → pz_dd T b < pz_dd T j)) →
          ∃ r a b' c F' R' H' L', ye_G T n r a b' c F' R' H' ∧ ∀ post : Int32 → SY → Prop, post r (nI n, a, b', c, y_places, y_procedures, y_continuationCount, y_things, y_foundCount, y_argumentCount, y_value, y_form, y_wherein, y_next, y_working, y_ending, y_counts, y_made, y_entered, y_printCount, y_itemCount, y_text, F', R', H', L', y_globals, y_placeNames, y_placeValues, y_placeNexts, y_procedureForms, y_procedurePlaces, y_continuations, y_whats, y_withs, y_whereins, y_soFars, y_afters, y_found, y_foundNexts, y_arguments, y_prints, y_itemKinds, y_itemNumbers, y_pile) →
            wpY_put (fun u => match u with | (y_size, y_pairs, y_open, y_formCount, y_places, y_procedures, y_continuationCount, y_things, y_foundCount, y_argumentCount, y_value, y_form, y_wherein, y_next, y_working, y_ending, y_counts, y_made, y_entered, y_printCount, y_itemCount, y_text, y_firsts, y_rests, y_heads, y_lasts, y_globals, y_placeNames, y_placeValues, y_placeNexts, y_procedureForms, y_procedurePlaces, y_continuations, y_whats, y_withs, y_whereins, y_soFars, y_afters, y_found, y_foundNexts, y_arguments, y_prints, y_itemKinds, y_itemNumbers, y_pile) => ∀ x : Int32, x = nI t + 1 → wY_read_22 post (d + 1) x y_size y_pairs y_open y_formCount y_places y_procedures y_continuationCount y_things y_foundCount y_argumentCount y_value y_form y_wherein y_next y_working y_ending y_counts y_made y_entered y_printCount y_itemCount y_text y_firsts y_rests y_heads y_lasts y_globals y_placeNames y_placeValues y_placeNexts y_procedureForms y_procedurePlaces y_continuations y_whats y_withs y_whereins y_soFars y_afters y_found y_foundNexts y_arguments y_prints y_itemKinds y_itemNumbers y_pile) (nI n, nI (pz_P T t), nI m', nI (pz_ww T t), y_places, y_procedures, y_continuationCount, y_things, y_foundCount, y_argumentCount, y_value, y_form, y_wherein, y_next, y_working, y_ending, y_counts, y_made, y_entered, y_printCount, y_itemCount, y_text, F, R, H, L, y_globals, y_placeNames, y_placeValues, y_placeNexts, y_procedureForms, y_procedurePlaces, y_continuations, y_whats, y_withs, y_whereins, y_soFars, y_afters, y_found, y_foundNexts, y_arguments, y_prints, y_itemKinds, y_itemNumbers, y_pile) (cd_yv T n b) := by
        intro m' b g1 g2 g3 g4 g6
        obtain ⟨k, rfl⟩ : ∃ k, m' = k + 1 := ⟨m' - 1, by omega⟩
        obtain ⟨k', H', L', F2, R2, r0, r1, r2, r3, r4, r5⟩ := ye_put_l (fc := pz_ww T t) (y_size := nI n) (y_places := y_places) (y_procedures := y_procedures) (y_continuationCount := y_continuationCount) (y_things := y_things) (y_foundCount := y_foundCount) (y_argumentCount := y_argumentCount) (y_value := y_value) (y_form := y_form) (y_wherein := y_wherein) (y_next := y_next) (y_working := y_working) (y_ending := y_ending) (y_counts := y_counts) (y_made := y_made) (y_entered := y_entered) (y_printCount := y_printCount) (y_itemCount := y_itemCount) (y_text := y_text) (y_globals := y_globals) (y_placeNames := y_placeNames) (y_placeValues := y_placeValues) (y_placeNexts := y_placeNexts) (y_procedureForms := y_procedureForms) (y_procedurePlaces := y_procedurePlaces) (y_continuations := y_continuations) (y_whats := y_whats) (y_withs := y_withs) (y_whereins := y_whereins) (y_soFars := y_soFars) (y_afters := y_afters) (y_found := y_found) (y_foundNexts := y_foundNexts) (y_arguments := y_arguments) (y_prints := y_prints) (y_itemKinds := y_itemKinds) (y_itemNumbers := y_itemNumbers) (y_pile := y_pile)
          hn (show t + 1 ≤ n by omega) g6 (fun i hi => hs i (show i < m by omega)) (fun i hi => ho i (show i ≤ m by omega)) hH (show k + 1 ≤ 71 by omega) (by omega) k (by omega) (by omega) (fun j j1 j2 => by omega) F R (fun _ _ => rfl) (fun _ _ => rfl) (fun j _ j1 j2 => by omega) (by omega)
        obtain ⟨r, a, b', c, F', R', H2, L2, q1, q2⟩ := ih (t + 1) (by omega) (okn g4) (k' + 1) (fun j => if j = k' + 1 then t + 1 else o j) H' L' F2 R2 (by omega) (by omega) (if_pos rfl)
            (fun j hj => by
              split
              · omega
              · have := ho j (by omega); omega)
            (fun j hj => r2 j (by omega)) r1 r4
        refine ⟨r, a, b', c, F', R', H2, L2, q1, fun post h => ⟨k + 2, ?_⟩⟩
        have := q2 post h
        rw [pz_ww_s r3 c2] at this
        have hl := r5 (fun u => match u with | (y_size, y_pairs, y_open, y_formCount, y_places, y_procedures, y_continuationCount, y_things, y_foundCount, y_argumentCount, y_value, y_form, y_wherein, y_next, y_working, y_ending, y_counts, y_made, y_entered, y_printCount, y_itemCount, y_text, y_firsts, y_rests, y_heads, y_lasts, y_globals, y_placeNames, y_placeValues, y_placeNexts, y_procedureForms, y_procedurePlaces, y_continuations, y_whats, y_withs, y_whereins, y_soFars, y_afters, y_found, y_foundNexts, y_arguments, y_prints, y_itemKinds, y_itemNumbers, y_pile) => ∀ x : Int32, x = nI t + 1 → wY_read_22 post (d + 1) x y_size y_pairs y_open y_formCount y_places y_procedures y_continuationCount y_things y_foundCount y_argumentCount y_value y_form y_wherein y_next y_working y_ending y_counts y_made y_entered y_printCount y_itemCount y_text y_firsts y_rests y_heads y_lasts y_globals y_placeNames y_placeValues y_placeNexts y_procedureForms y_procedurePlaces y_continuations y_whats y_withs y_whereins y_soFars y_afters y_found y_foundNexts y_arguments y_prints y_itemKinds y_itemNumbers y_pile) (nm_r (nI_1 t) this)
        rw [g3, Nat.sub_self] at hl
        exact hl
      by_cases c1 : T t = 1
      · by_cases cm : m = 1
        · subst cm
          have top := yr_top0 (hs 0 (by omega))
          rw [om] at top
          refine ⟨0, nI (pz_P T t), nI 1, nI (pz_ww T t), F, R, H, L, Or.inr ⟨rfl, fun hR => by have := (hR.1 t (by omega) c1).1; omega⟩, fun post h => br_f hsz ⟨hit, nm_r pre (br_f n0 (br_f n2 ?_))⟩⟩
          rw [c1]
          exact br_t rfl (br_t rfl h)
        · have nm : ¬ nI m = 1 := ne_I (b := 1) cm (by omega) (by decide)
          obtain ⟨k, rfl⟩ : ∃ k, m = k + 1 := ⟨m - 1, by omega⟩
          have sk := hs k (by omega)
          have ek : (nI k).toNatClampNeg = k := nI_clamp (by omega)
          have ek' : (nI (k + 1) - 1).toNatClampNeg = k := by rw [nI_pred]; exact ek
          have hik : vp_in (nI (k + 1) - 1) 72 := by rw [nI_pred]; exact vp_in_nI (by omega) (by decide)
          by_cases hne : H k = -2
          · have hm := yr_topq sk hne (by omega) (by omega)
            rw [om] at hm
            refine ⟨0, nI (pz_P T t), nI (k + 1), nI (pz_ww T t), F, R, H, L, Or.inr ⟨rfl, fun hR => (hR.1 t (by omega) c1).2 hm⟩, fun post h => br_f hsz ⟨hit, nm_r pre (br_f n0 (br_f n2 ?_))⟩⟩
            rw [c1]
            exact br_t rfl (br_f nm ⟨hik, br_t (by rw [ek']; exact hne) h⟩)
          · have hd := yr_topl sk hne (by omega)
            have hnm := yr_sg_nmk sk hne
            rw [om] at hd hnm
            have hcl := yr_close sk hne (by omega) om c1
            have hv : cd_yv T n (o k) = cd_yl T n (yr_s o k) := by
              unfold yr_s
              rw [if_neg (by omega)]
              exact cd_yv_0 hcl.1
            obtain ⟨r, a, b', c, F', R', H2, L2, q1, q2⟩ := hput k (o k) (by omega) (by omega) rfl (fun _ => ⟨hd, hnm⟩) (Or.inr hcl)
            refine ⟨r, a, b', c, F', R', H2, L2, q1, fun post h => br_f hsz ⟨hit, nm_r pre (br_f n0 (br_f n2 ?_))⟩⟩
            have hpp := q2 post h
            rw [c1]
            refine br_t rfl (br_f nm ⟨hik, br_f (by rw [ek']; exact hne) (nm_r (nI_pred k) ⟨vp_in_nI (by omega) (by decide), ?_⟩)⟩)
            rw [ek]
            rcases yr_clist sk hne om (by omega) c1 with ⟨q1, q2⟩ | ⟨q1, q2, q3⟩
            · rw [q1]
              rw [hv, q2] at hpp
              exact br_f (by decide) (ys_thing (t := 2) (k := 0) rfl rfl (by decide) (by decide) hpp)
            · have := pz_P_mono (T := T) (show t ≤ n by omega)
              rw [q1]
              rw [hv, q2] at hpp
              exact br_t (nI_pos' (by omega)) (ys_thing (t := 3) rfl rfl (by decide) (by omega) hpp)
      · have n1 : ¬ nI (T t) = 1 := ne_I (b := 1) c1 (by omega) (by decide)
        obtain ⟨r, a, b', c, F', R', H2, L2, q1, q2⟩ := hput m t (Nat.le_refl _) m1 om (fun z => absurd z c1) (Or.inl ⟨by omega, rfl⟩)
        refine ⟨r, a, b', c, F', R', H2, L2, q1, fun post h => br_f hsz ⟨hit, nm_r pre (br_f n0 (br_f n2 (br_f n1 ?_)))⟩⟩
        have hpp := q2 post h
        rw [cd_yv_a (by omega)] at hpp
        exact ys_atom tk (by omega) hpp
theorem ye_read (hn : n ≤ 70) (hT : ∀ i, i < n → zv_tk (T i) ∧ y_text i = nI (T i)) :
    ∃ r a b c F R H L, ye_G T n r a b c F R H ∧ ∀ post : Int32 → SY → Prop, post r (nI n, a, b, c, y_places, y_procedures, y_continuationCount, y_things, y_foundCount, y_argumentCount, y_value, y_form, y_wherein, y_next, y_working, y_ending, y_counts, y_made, y_entered, y_printCount, y_itemCount, y_text, F, R, H, L, y_globals, y_placeNames, y_placeValues, y_placeNexts, y_procedureForms, y_procedurePlaces, y_continuations, y_whats, y_withs, y_whereins, y_soFars, y_afters, y_found, y_foundNexts, y_arguments, y_prints, y_itemKinds, y_itemNumbers, y_pile) → wpY_read post (nI n, y_pairs, y_open, y_formCount, y_places, y_procedures, y_continuationCount, y_things, y_foundCount, y_argumentCount, y_value, y_form, y_wherein, y_next, y_working, y_ending, y_counts, y_made, y_entered, y_printCount, y_itemCount, y_text, y_firsts, y_rests, y_heads, y_lasts, y_globals, y_placeNames, y_placeValues, y_placeNexts, y_procedureForms, y_procedurePlaces, y_continuations, y_whats, y_withs, y_whereins, y_soFars, y_afters, y_found, y_foundNexts, y_arguments, y_prints, y_itemKinds, y_itemNumbers, y_pile) := by
  obtain ⟨r, a, b, c, F, R, H, L, h1, h2⟩ := ye_rd (y_places := y_places) (y_procedures := y_procedures) (y_continuationCount := y_continuationCount) (y_things := y_things) (y_foundCount := y_foundCount) (y_argumentCount := y_argumentCount) (y_value := y_value) (y_form := y_form) (y_wherein := y_wherein) (y_next := y_next) (y_working := y_working) (y_ending := y_ending) (y_counts := y_counts) (y_made := y_made) (y_entered := y_entered) (y_printCount := y_printCount) (y_itemCount := y_itemCount) (y_globals := y_globals) (y_placeNames := y_placeNames) (y_placeValues := y_placeValues) (y_placeNexts := y_placeNexts) (y_procedureForms := y_procedureForms) (y_procedurePlaces := y_procedurePlaces) (y_continuations := y_continuations) (y_whats := y_whats) (y_withs := y_withs) (y_whereins := y_whereins) (y_soFars := y_soFars) (y_afters := y_afters) (y_found := y_found) (y_foundNexts := y_foundNexts) (y_arguments := y_arguments) (y_prints := y_prints) (y_itemKinds := y_itemKinds) (y_itemNumbers := y_itemNumbers) (y_pile := y_pile)
    hn hT n 0 (by omega) (fun j hj => by omega) 1 (fun _ => 0) (upd y_heads 0 (-1)) (upd y_lasts 0 (-1)) y_firsts y_rests (Nat.le_refl _) (by omega) rfl (fun k hk => Nat.le_refl _)
    (fun k hk => by
      have hk0 : k = 0 := by omega
      subst hk0
      exact Or.inr ⟨Or.inl rfl, Nat.le_refl _, rfl, fun j j1 j2 => by rw [show j = 0 from Nat.le_zero.mp j2]; exact Nat.le_refl _, Or.inl ⟨rfl, pk_us, pk_us⟩⟩) yr_H0 (by rw [pz_P]; omega)
  refine ⟨r, a, b, c, F, R, H, L, h1, fun post h => ?_⟩
  unfold wpY_read
  refine ys_openList (m := 0) (by decide) ?_
  exact ⟨n + 1, h2 post h⟩
end
end
section
/-! the run from its begin -/
section
variable {x_textLength : Int32} {x_pairCount : Int32} {x_placeCount : Int32} {x_procedureCount : Int32} {x_continuationCount : Int32} {x_frameCount : Int32} {x_state : Int32} {x_ending : Int32} {x_form : Int64} {x_environment : Int32} {x_frame : Int32} {x_value : Int64} {x_applied : Int64} {x_argumentCount : Int32} {x_countedCount : Int32} {x_consCount : Int32} {x_entryCount : Int32} {x_outputCount : Int32} {x_itemCount : Int32} {x_text : Nat → Int32} {x_firsts : Nat → Int64} {x_rests : Nat → Int64} {x_placeNames : Nat → Int32} {x_placeValues : Nat → Int64} {x_placeOuters : Nat → Int32} {x_procedureParts : Nat → Int64} {x_procedurePlaces : Nat → Int32} {x_continuationFrames : Nat → Int32} {x_frameTasks : Nat → Int32} {x_frameForms : Nat → Int64} {x_frameValues : Nat → Int64} {x_framePlaces : Nat → Int32} {x_frameNexts : Nat → Int32} {x_arguments : Nat → Int64} {x_outputs : Nat → Int32} {x_itemKinds : Nat → Int32} {x_itemNumbers : Nat → Int32} {x_openLists : Nat → Int64}
variable {y_size : Int32} {y_pairs : Int32} {y_open : Int32} {y_formCount : Int32} {y_places : Int32} {y_procedures : Int32} {y_continuationCount : Int32} {y_things : Int32} {y_foundCount : Int32} {y_argumentCount : Int32} {y_value : Int64} {y_form : Int64} {y_wherein : Int32} {y_next : Int32} {y_working : Int32} {y_ending : Int32} {y_counts : Int32} {y_made : Int32} {y_entered : Int32} {y_printCount : Int32} {y_itemCount : Int32} {y_text : Nat → Int32} {y_firsts : Nat → Int64} {y_rests : Nat → Int64} {y_heads : Nat → Int32} {y_lasts : Nat → Int32} {y_globals : Nat → Int64} {y_placeNames : Nat → Int32} {y_placeValues : Nat → Int64} {y_placeNexts : Nat → Int32} {y_procedureForms : Nat → Int64} {y_procedurePlaces : Nat → Int32} {y_continuations : Nat → Int32} {y_whats : Nat → Int32} {y_withs : Nat → Int64} {y_whereins : Nat → Int32} {y_soFars : Nat → Int32} {y_afters : Nat → Int32} {y_found : Nat → Int64} {y_foundNexts : Nat → Int32} {y_arguments : Nat → Int64} {y_prints : Nat → Int32} {y_itemKinds : Nat → Int32} {y_itemNumbers : Nat → Int32} {y_pile : Nat → Int64}
variable {T : Nat → Nat} {n : Nat}
theorem xe_fg : ∀ d i, i + d = 10 → ∀ pv : Nat → Int64, (∀ k, k < i → pv k = -1) → ∃ pv' : Nat → Int64, (∀ k, k < 10 → pv' k = -1) ∧ ∀ post : SX → Prop, post (x_textLength, 0, 10, 0, 0, 0, x_state, -1, x_form, 0, -1, x_value, x_applied, x_argumentCount, 0, 0, 0, 0, -1000000003, x_text, x_firsts, x_rests, x_placeNames, pv', x_placeOuters, x_procedureParts, x_procedurePlaces, x_continuationFrames, x_frameTasks, x_frameForms, x_frameValues, x_framePlaces, x_frameNexts, x_arguments, x_outputs, x_itemKinds, x_itemNumbers, x_openLists) →
    wX_forget_7 post x_textLength 0 x_placeCount x_procedureCount x_continuationCount x_frameCount x_state x_ending x_form x_environment x_frame x_value x_applied x_argumentCount x_countedCount x_consCount x_entryCount x_outputCount x_itemCount (d + 1) (nI i) x_text x_firsts x_rests x_placeNames pv x_placeOuters x_procedureParts x_procedurePlaces x_continuationFrames x_frameTasks x_frameForms x_frameValues x_framePlaces x_frameNexts x_arguments x_outputs x_itemKinds x_itemNumbers x_openLists := by
  intro d
  induction d with
  | zero =>
    intro i hi pv h
    have : i = 10 := by omega
    subst this
    exact ⟨pv, h, fun post hp => br_t (by decide) hp⟩
  | succ d ih =>
    intro i hi pv h
    have e : (nI i).toNatClampNeg = i := nI_clamp (by omega)
    obtain ⟨pv', h1, h2⟩ := ih (i + 1) (by omega) (vp_updL pv i (-1)) (fun k hk => by
      by_cases z : k = i
      · rw [z, pk_uLs]
      · rw [pk_uLn z]; exact h k (by omega))
    exact ⟨pv', h1, fun post hp => br_f (nI_ge (b := 10) (by omega) (by decide)) ⟨vp_in_nI (by omega) (by decide), nm_r (cl_L e) (nm_r (nI_1 i) (h2 post hp))⟩⟩
theorem ye_gl : ∀ d i, i + d = 10 → ∀ gl : Nat → Int64, (∀ k, k < i → gl k = zv_c 9 0) → ∃ gl' : Nat → Int64, (∀ k, k < 10 → gl' k = zv_c 9 0) ∧ ∀ post : SY → Prop, wY_runText_58 post y_size y_pairs y_open y_formCount y_places y_procedures y_continuationCount y_things y_foundCount y_argumentCount y_value y_form y_wherein y_next y_working y_ending y_counts y_made y_entered y_printCount y_itemCount 1 (nI 10) y_text y_firsts y_rests y_heads y_lasts (gl') y_placeNames y_placeValues y_placeNexts y_procedureForms y_procedurePlaces y_continuations y_whats y_withs y_whereins y_soFars y_afters y_found y_foundNexts y_arguments y_prints y_itemKinds y_itemNumbers y_pile →
    wY_runText_58 post y_size y_pairs y_open y_formCount y_places y_procedures y_continuationCount y_things y_foundCount y_argumentCount y_value y_form y_wherein y_next y_working y_ending y_counts y_made y_entered y_printCount y_itemCount (d + 1) (nI i) y_text y_firsts y_rests y_heads y_lasts gl y_placeNames y_placeValues y_placeNexts y_procedureForms y_procedurePlaces y_continuations y_whats y_withs y_whereins y_soFars y_afters y_found y_foundNexts y_arguments y_prints y_itemKinds y_itemNumbers y_pile := by
  intro d
  induction d with
  | zero =>
    intro i hi gl h
    have : i = 10 := by omega
    subst this
    exact ⟨gl, h, fun post hp => hp⟩
  | succ d ih =>
    intro i hi gl h
    have e : (nI i).toNatClampNeg = i := nI_clamp (by omega)
    obtain ⟨gl', h1, h2⟩ := ih (i + 1) (by omega) (vp_updL gl i (zv_c 9 0)) (fun k hk => by
      by_cases z : k = i
      · rw [z, pk_uLs]
      · rw [pk_uLn z]; exact h k (by omega))
    exact ⟨gl', h1, fun post hp => br_f (nI_ge (b := 10) (by omega) (by decide)) (ys_thing (t := 9) (k := 0) rfl rfl (by decide) (by decide) ⟨vp_in_nI (by omega) (by decide), nm_r (cl_L e) (nm_r (nI_1 i) (h2 post hp))⟩)⟩
theorem run_all (h : tx_R T n (x_textLength, x_pairCount, x_placeCount, x_procedureCount, x_continuationCount, x_frameCount, x_state, x_ending, x_form, x_environment, x_frame, x_value, x_applied, x_argumentCount, x_countedCount, x_consCount, x_entryCount, x_outputCount, x_itemCount, x_text, x_firsts, x_rests, x_placeNames, x_placeValues, x_placeOuters, x_procedureParts, x_procedurePlaces, x_continuationFrames, x_frameTasks, x_frameForms, x_frameValues, x_framePlaces, x_frameNexts, x_arguments, x_outputs, x_itemKinds, x_itemNumbers, x_openLists) (y_size, y_pairs, y_open, y_formCount, y_places, y_procedures, y_continuationCount, y_things, y_foundCount, y_argumentCount, y_value, y_form, y_wherein, y_next, y_working, y_ending, y_counts, y_made, y_entered, y_printCount, y_itemCount, y_text, y_firsts, y_rests, y_heads, y_lasts, y_globals, y_placeNames, y_placeValues, y_placeNexts, y_procedureForms, y_procedurePlaces, y_continuations, y_whats, y_withs, y_whereins, y_soFars, y_afters, y_found, y_foundNexts, y_arguments, y_prints, y_itemKinds, y_itemNumbers, y_pile)) : ∃ u' v', (sm_E T n u' v' ∨ sm_D T n u' v') ∧ (∀ post : SX → Prop, xEnd post u' → wpX_perform post (x_textLength, x_pairCount, x_placeCount, x_procedureCount, x_continuationCount, x_frameCount, x_state, x_ending, x_form, x_environment, x_frame, x_value, x_applied, x_argumentCount, x_countedCount, x_consCount, x_entryCount, x_outputCount, x_itemCount, x_text, x_firsts, x_rests, x_placeNames, x_placeValues, x_placeOuters, x_procedureParts, x_procedurePlaces, x_continuationFrames, x_frameTasks, x_frameForms, x_frameValues, x_framePlaces, x_frameNexts, x_arguments, x_outputs, x_itemKinds, x_itemNumbers, x_openLists)) ∧ (∀ post : SY → Prop, yEnd post v' → wpY_runText post (y_size, y_pairs, y_open, y_formCount, y_places, y_procedures, y_continuationCount, y_things, y_foundCount, y_argumentCount, y_value, y_form, y_wherein, y_next, y_working, y_ending, y_counts, y_made, y_entered, y_printCount, y_itemCount, y_text, y_firsts, y_rests, y_heads, y_lasts, y_globals, y_placeNames, y_placeValues, y_placeNexts, y_procedureForms, y_procedurePlaces, y_continuations, y_whats, y_withs, y_whereins, y_soFars, y_afters, y_found, y_foundNexts, y_arguments, y_prints, y_itemKinds, y_itemNumbers, y_pile)) := by
  obtain ⟨hn, hT, rfl, rfl, ht⟩ := h
  have hXt : ∀ i, i < n → zv_tk (T i) ∧ x_text i = nI (T i) := fun i hi => ⟨hT i hi, (ht i hi).1⟩
  have hYt : ∀ i, i < n → zv_tk (T i) ∧ y_text i = nI (T i) := fun i hi => ⟨hT i hi, (ht i hi).2⟩
  obtain ⟨pv, hpv, hfg⟩ := xe_fg (x_textLength := nI n) (x_state := x_state) (x_form := x_form) (x_value := x_value) (x_applied := x_applied) (x_argumentCount := x_argumentCount) (x_text := x_text) (x_firsts := x_firsts) (x_rests := x_rests) (x_placeNames := x_placeNames) (x_placeOuters := x_placeOuters) (x_procedureParts := x_procedureParts) (x_procedurePlaces := x_procedurePlaces) (x_continuationFrames := x_continuationFrames) (x_frameTasks := x_frameTasks) (x_frameForms := x_frameForms) (x_frameValues := x_frameValues) (x_framePlaces := x_framePlaces) (x_frameNexts := x_frameNexts) (x_arguments := x_arguments) (x_outputs := x_outputs) (x_itemKinds := x_itemKinds) (x_itemNumbers := x_itemNumbers) (x_openLists := x_openLists) (x_placeCount := x_placeCount) (x_procedureCount := x_procedureCount) (x_continuationCount := x_continuationCount) (x_frameCount := x_frameCount) (x_ending := x_ending) (x_environment := x_environment) (x_frame := x_frame) (x_countedCount := x_countedCount) (x_consCount := x_consCount) (x_entryCount := x_entryCount) (x_outputCount := x_outputCount) (x_itemCount := x_itemCount) 10 0 (by omega) x_placeValues (fun k hk => by omega)
  obtain ⟨gl, hgl, hyg⟩ := ye_gl (y_size := nI n) (y_pairs := y_pairs) (y_open := y_open) (y_formCount := y_formCount) (y_places := 0) (y_procedures := 0) (y_continuationCount := 0) (y_things := 0) (y_foundCount := 0) (y_argumentCount := y_argumentCount) (y_value := y_value) (y_form := y_form) (y_wherein := y_wherein) (y_next := -1) (y_working := y_working) (y_ending := -1000000003) (y_counts := 0) (y_made := 0) (y_entered := 0) (y_printCount := 0) (y_itemCount := y_itemCount) (y_text := y_text) (y_firsts := y_firsts) (y_rests := y_rests) (y_heads := y_heads) (y_lasts := y_lasts) (y_placeNames := y_placeNames) (y_placeValues := y_placeValues) (y_placeNexts := y_placeNexts) (y_procedureForms := y_procedureForms) (y_procedurePlaces := y_procedurePlaces) (y_continuations := y_continuations) (y_whats := y_whats) (y_withs := y_withs) (y_whereins := y_whereins) (y_soFars := y_soFars) (y_afters := y_afters) (y_found := y_found) (y_foundNexts := y_foundNexts) (y_arguments := y_arguments) (y_prints := y_prints) (y_itemKinds := y_itemKinds) (y_itemNumbers := y_itemNumbers) (y_pile := y_pile) 10 0 (by omega) y_globals (fun k hk => by omega)
  obtain ⟨r, a, b, c, F, R, H, L, hG, hrd⟩ := ye_read (y_pairs := y_pairs) (y_open := y_open) (y_formCount := y_formCount) (y_places := 0) (y_procedures := 0) (y_continuationCount := 0) (y_things := 0) (y_foundCount := 0) (y_argumentCount := y_argumentCount) (y_value := zv_c 8 0) (y_form := y_form) (y_wherein := y_wherein) (y_next := -1) (y_working := 0) (y_ending := -1000000003) (y_counts := 0) (y_made := 0) (y_entered := 0) (y_printCount := 0) (y_itemCount := y_itemCount) (y_firsts := y_firsts) (y_rests := y_rests) (y_heads := y_heads) (y_lasts := y_lasts) (y_globals := gl) (y_placeNames := y_placeNames) (y_placeValues := y_placeValues) (y_placeNexts := y_placeNexts) (y_procedureForms := y_procedureForms) (y_procedurePlaces := y_procedurePlaces) (y_continuations := y_continuations) (y_whats := y_whats) (y_withs := y_withs) (y_whereins := y_whereins) (y_soFars := y_soFars) (y_afters := y_afters) (y_found := y_found) (y_foundNexts := y_foundNexts) (y_arguments := y_arguments) (y_prints := y_prints) (y_itemKinds := y_itemKinds) (y_itemNumbers := y_itemNumbers) (y_pile := y_pile) hn hYt
  have hX0 : ∀ post : SX → Prop, post (nI n, 0, 10, 0, 0, 0, x_state, -1, x_form, 0, -1, x_value, x_applied, x_argumentCount, 0, 0, 0, 0, -1000000003, x_text, x_firsts, x_rests, x_placeNames, pv, x_placeOuters, x_procedureParts, x_procedurePlaces, x_continuationFrames, x_frameTasks, x_frameForms, x_frameValues, x_framePlaces, x_frameNexts, x_arguments, x_outputs, x_itemKinds, x_itemNumbers, x_openLists) → wpX_forget post (nI n, x_pairCount, x_placeCount, x_procedureCount, x_continuationCount, x_frameCount, x_state, x_ending, x_form, x_environment, x_frame, x_value, x_applied, x_argumentCount, x_countedCount, x_consCount, x_entryCount, x_outputCount, x_itemCount, x_text, x_firsts, x_rests, x_placeNames, x_placeValues, x_placeOuters, x_procedureParts, x_procedurePlaces, x_continuationFrames, x_frameTasks, x_frameForms, x_frameValues, x_framePlaces, x_frameNexts, x_arguments, x_outputs, x_itemKinds, x_itemNumbers, x_openLists) := fun post hp => ⟨11, hfg post hp⟩
  rcases hG with ⟨rfl, hR, rfl, rfl, rfl, hH, hH0, hP⟩ | ⟨rfl, hR⟩
  · have hW := pz_W_le (T := T) (i := n)
    obtain ⟨OL, FX, RX, hI, hrf⟩ := xe_readForms (x_placeCount := 10) (x_procedureCount := 0) (x_continuationCount := 0) (x_frameCount := 0) (x_state := x_state) (x_ending := -1) (x_form := x_form) (x_environment := 0) (x_frame := -1) (x_value := x_value) (x_applied := x_applied) (x_argumentCount := x_argumentCount) (x_countedCount := 0) (x_consCount := 0) (x_entryCount := 0) (x_outputCount := 0) (x_itemCount := -1000000003) (x_firsts := x_firsts) (x_rests := x_rests) (x_placeNames := x_placeNames) (x_placeValues := pv) (x_placeOuters := x_placeOuters) (x_procedureParts := x_procedureParts) (x_procedurePlaces := x_procedurePlaces) (x_continuationFrames := x_continuationFrames) (x_frameTasks := x_frameTasks) (x_frameForms := x_frameForms) (x_frameValues := x_frameValues) (x_framePlaces := x_framePlaces) (x_frameNexts := x_frameNexts) (x_arguments := x_arguments) (x_outputs := x_outputs) (x_itemKinds := x_itemKinds) (x_itemNumbers := x_itemNumbers) (x_openLists := x_openLists) hR hn hXt
    obtain ⟨hcd, hhp⟩ := cd_start (np := 0) (nc := 0) hR hn hT (Nat.le_refl _) (Nat.le_refl _) (yr_end hR hH) (xr_end hI)
    have hRel : sm_R T n (cd_M T n) (fun _ => 0) (pz_W T n) (pz_P T n) 0 0 0 0 0 0 0 0 0 (nI n, nI (pz_W T n), 10, 0, 0, 0, x_state, -1, x_form, 0, -1, x_value, x_applied, x_argumentCount, 0, 0, 0, 0, -1000000003, x_text, FX, RX, x_placeNames, pv, x_placeOuters, x_procedureParts, x_procedurePlaces, x_continuationFrames, x_frameTasks, x_frameForms, x_frameValues, x_framePlaces, x_frameNexts, x_arguments, x_outputs, x_itemKinds, x_itemNumbers, OL) (nI n, nI (pz_P T n), 1, nI (pz_ww T n), 0, 0, 0, 0, 0, y_argumentCount, zv_c 8 0, y_form, y_wherein, -1, 0, -1000000003, 0, 0, 0, 0, y_itemCount, y_text, F, R, H, L, gl, y_placeNames, y_placeValues, y_placeNexts, y_procedureForms, y_procedurePlaces, y_continuations, y_whats, y_withs, y_whereins, y_soFars, y_afters, y_found, y_foundNexts, y_arguments, y_prints, y_itemKinds, y_itemNumbers, y_pile) :=
      ⟨⟨hR, hn, hT, ht⟩, ⟨rfl, rfl, rfl, rfl, rfl, rfl, rfl, rfl, rfl, rfl, rfl⟩, ⟨rfl, rfl, rfl, rfl, rfl, rfl, rfl, rfl, rfl, rfl, rfl⟩, by omega, hcd, ⟨hhp, fun _ _ h => h⟩, fun k hk => by omega, fun k hk => by omega, ⟨fun k hk => Or.inl ⟨hgl k hk, hpv k hk⟩, fun k hk => by omega⟩, fun k hk => by omega, fun k hk => by omega, fun k hk => by omega⟩
    have hYs : ∀ post : SY → Prop, (∃ n129, wY_runText_129 post n129 (nI n) (nI (pz_P T n)) 1 (nI (pz_ww T n)) 0 0 0 0 0 y_argumentCount (zv_c 8 0) y_form y_wherein (-1) 0 (-1000000003) 0 0 0 0 y_itemCount y_text F R H L gl y_placeNames y_placeValues y_placeNexts y_procedureForms y_procedurePlaces y_continuations y_whats y_withs y_whereins y_soFars y_afters y_found y_foundNexts y_arguments y_prints y_itemKinds y_itemNumbers y_pile) → n = 0 → wpY_runText post (nI n, y_pairs, y_open, y_formCount, y_places, y_procedures, y_continuationCount, y_things, y_foundCount, y_argumentCount, y_value, y_form, y_wherein, y_next, y_working, y_ending, y_counts, y_made, y_entered, y_printCount, y_itemCount, y_text, y_firsts, y_rests, y_heads, y_lasts, y_globals, y_placeNames, y_placeValues, y_placeNexts, y_procedureForms, y_procedurePlaces, y_continuations, y_whats, y_withs, y_whereins, y_soFars, y_afters, y_found, y_foundNexts, y_arguments, y_prints, y_itemKinds, y_itemNumbers, y_pile) := by
      intro post hq h0
      refine ⟨11, hyg post (br_t (by decide) (ys_thing (t := 8) (k := 0) rfl rfl (by decide) (by decide) (hrd _ (br_f (by decide) (br_t ?_ hq)))))⟩
      rw [h0]; decide
    by_cases h0 : n = 0
    · have hV : sm_V T n 0 0 (nI n, nI (pz_W T n), 10, 0, 0, 0, 2, -1, x_form, 0, -1, zv_c 8 0, x_applied, x_argumentCount, 0, 0, 0, 0, -1000000003, x_text, FX, RX, x_placeNames, pv, x_placeOuters, x_procedureParts, x_procedurePlaces, x_continuationFrames, x_frameTasks, x_frameForms, x_frameValues, x_framePlaces, x_frameNexts, x_arguments, x_outputs, x_itemKinds, x_itemNumbers, OL) (nI n, nI (pz_P T n), 1, nI (pz_ww T n), 0, 0, 0, 0, 0, y_argumentCount, zv_c 8 0, y_form, y_wherein, -1, 0, -1000000003, 0, 0, 0, 0, y_itemCount, y_text, F, R, H, L, gl, y_placeNames, y_placeValues, y_placeNexts, y_procedureForms, y_procedurePlaces, y_continuations, y_whats, y_withs, y_whereins, y_soFars, y_afters, y_found, y_foundNexts, y_arguments, y_prints, y_itemKinds, y_itemNumbers, y_pile) :=
        ⟨cd_M T n, fun _ => 0, pz_W T n, pz_P T n, 0, 0, 0, 0, 0, 0, 0, 0, rk_ig hRel, by omega, rfl, rfl, rfl, rfl, zv_Vnoth, rfl, Or.inl ⟨rfl, rfl⟩⟩
      obtain ⟨u', v', hr, hX, hY⟩ := st_main _ 0 _ _ (Or.inr ⟨0, by omega, hV, rfl⟩)
      refine ⟨u', v', hr, fun post hp => ?_, fun post hp => ?_⟩
      · unfold wpX_perform
        refine hX0 _ ?_
        refine xs_countForms hn hXt (fun _ => br_f (pz_ww_n hn) (hrf _ (br_t ?_ ⟨950000, ?_⟩))) (fun z => absurd hR z)
        · rw [cd_xl_e (fun z => by omega), zk_xE]
        · rw [zk_xN]
          exact hX post 950000 0 (by decide) (by decide) hp
      · exact hYs post ⟨950000, hY post 950000 (by decide) hp⟩ h0
    · have h1 : T 0 ≠ 1 := fun z => by
        have := (hR.1 0 (by omega) z).1
        have e : pz_dd T 0 = 0 := rfl
        omega
      obtain ⟨u1, v1, hX1, hY1, hF⟩ := sm_all (w := -1) (p := 0) hRel rfl rfl (by omega) (Or.inl ⟨rfl, rfl⟩) rfl (Or.inl rfl) ls_0 (by omega) h1
      obtain ⟨u', v', hr, hX, hY⟩ := st_main _ 0 _ _ (Or.inl ⟨hF, rfl⟩)
      have hN := (hhp.2.2.2.2.2 0 0 ⟨by omega, Or.inl ⟨rfl, h1, pz_mk_0⟩⟩)
      refine ⟨u', v', hr, fun post hp => ?_, fun post hp => ?_⟩
      · unfold wpX_perform
        refine hX0 _ ?_
        refine xs_countForms hn hXt (fun _ => br_f (pz_ww_n hn) (hrf _ (br_f ?_ (hX1 _ ?_)))) (fun z => absurd hR z)
        · rw [cd_xl_p (by omega) h1, zk_xE]
          exact ch_X0 (B := pz_W T n) (by omega) _ hN.2
        · have := hX post 950000 0 (by decide) (by decide) hp
          obtain ⟨x_textLength, x_pairCount, x_placeCount, x_procedureCount, x_continuationCount, x_frameCount, x_state, x_ending, x_form, x_environment, x_frame, x_value, x_applied, x_argumentCount, x_countedCount, x_consCount, x_entryCount, x_outputCount, x_itemCount, x_text, x_firsts, x_rests, x_placeNames, x_placeValues, x_placeOuters, x_procedureParts, x_procedurePlaces, x_continuationFrames, x_frameTasks, x_frameForms, x_frameValues, x_framePlaces, x_frameNexts, x_arguments, x_outputs, x_itemKinds, x_itemNumbers, x_openLists⟩ := u1
          exact ⟨950000, this⟩
      · refine ⟨11, hyg post (br_t (by decide) (ys_thing (t := 8) (k := 0) rfl rfl (by decide) (by decide) (hrd _ (br_f (by decide) (br_f (nI_nle (by omega) (by omega)) ?_)))))⟩
        rw [hH0 (by omega)]
        have hh := hY1 (fun u => match u with | (y_size, y_pairs, y_open, y_formCount, y_places, y_procedures, y_continuationCount, y_things, y_foundCount, y_argumentCount, y_value, y_form, y_wherein, y_next, y_working, y_ending, y_counts, y_made, y_entered, y_printCount, y_itemCount, y_text, y_firsts, y_rests, y_heads, y_lasts, y_globals, y_placeNames, y_placeValues, y_placeNexts, y_procedureForms, y_procedurePlaces, y_continuations, y_whats, y_withs, y_whereins, y_soFars, y_afters, y_found, y_foundNexts, y_arguments, y_prints, y_itemKinds, y_itemNumbers, y_pile) => ∃ n129 : Nat, wY_runText_129 post n129 y_size y_pairs y_open y_formCount y_places y_procedures y_continuationCount y_things y_foundCount y_argumentCount y_value y_form y_wherein y_next y_working y_ending y_counts y_made y_entered y_printCount y_itemCount y_text y_firsts y_rests y_heads y_lasts y_globals y_placeNames y_placeValues y_placeNexts y_procedureForms y_procedurePlaces y_continuations y_whats y_withs y_whereins y_soFars y_afters y_found y_foundNexts y_arguments y_prints y_itemKinds y_itemNumbers y_pile) (by
          have := hY post 950000 (by decide) hp
          obtain ⟨y_size, y_pairs, y_open, y_formCount, y_places, y_procedures, y_continuationCount, y_things, y_foundCount, y_argumentCount, y_value, y_form, y_wherein, y_next, y_working, y_ending, y_counts, y_made, y_entered, y_printCount, y_itemCount, y_text, y_firsts, y_rests, y_heads, y_lasts, y_globals, y_placeNames, y_placeValues, y_placeNexts, y_procedureForms, y_procedurePlaces, y_continuations, y_whats, y_withs, y_whereins, y_soFars, y_afters, y_found, y_foundNexts, y_arguments, y_prints, y_itemKinds, y_itemNumbers, y_pile⟩ := v1
          exact ⟨950000, this⟩)
        rw [cd_yl_p (by omega) h1] at hh
        exact br_t (nI_pos' (by omega)) (ys_thing (t := 3) rfl rfl (by decide) (by omega) hh)
  · refine ⟨(nI n, 0, 10, 0, 0, 0, x_state, 1, x_form, 0, -1, x_value, x_applied, x_argumentCount, 0, 0, 0, 0, -1000000003, x_text, x_firsts, x_rests, x_placeNames, pv, x_placeOuters, x_procedureParts, x_procedurePlaces, x_continuationFrames, x_frameTasks, x_frameForms, x_frameValues, x_framePlaces, x_frameNexts, x_arguments, x_outputs, x_itemKinds, x_itemNumbers, x_openLists), (nI n, a, b, c, 0, 0, 0, 0, 0, y_argumentCount, zv_c 8 0, y_form, y_wherein, -1, 0, 1, 0, 0, 0, 0, y_itemCount, y_text, F, R, H, L, gl, y_placeNames, y_placeValues, y_placeNexts, y_procedureForms, y_procedurePlaces, y_continuations, y_whats, y_withs, y_whereins, y_soFars, y_afters, y_found, y_foundNexts, y_arguments, y_prints, y_itemKinds, y_itemNumbers, y_pile), Or.inl ⟨1, 0, ⟨hn, hT, rfl, rfl, ht⟩, by decide, by decide, by decide, rfl, rfl, rfl, rfl, rfl, rfl, rfl, fun i hi => by omega, rfl⟩, fun post hp => ?_, fun post hp => ?_⟩
    · unfold wpX_perform
      refine hX0 _ ?_
      exact xs_countForms hn hXt (fun z => absurd z hR) (fun _ => br_t rfl (hp.2 (by decide)))
    · exact ⟨11, hyg post (br_t (by decide) (ys_thing (t := 8) (k := 0) rfl rfl (by decide) (by decide) (hrd _ (br_t rfl (hp.2 (by decide))))))⟩
end
end
section
/-! what both sides hold when a run has ended -/
def fi_R (T : Nat → Nat) (n : Nat) (u : SX) (v : SY) : Prop := tx_R T n u v ∧ match u, v with
  | (x_textLength, x_pairCount, x_placeCount, x_procedureCount, x_continuationCount, x_frameCount, x_state, x_ending, x_form, x_environment, x_frame, x_value, x_applied, x_argumentCount, x_countedCount, x_consCount, x_entryCount, x_outputCount, x_itemCount, x_text, x_firsts, x_rests, x_placeNames, x_placeValues, x_placeOuters, x_procedureParts, x_procedurePlaces, x_continuationFrames, x_frameTasks, x_frameForms, x_frameValues, x_framePlaces, x_frameNexts, x_arguments, x_outputs, x_itemKinds, x_itemNumbers, x_openLists), (y_size, y_pairs, y_open, y_formCount, y_places, y_procedures, y_continuationCount, y_things, y_foundCount, y_argumentCount, y_value, y_form, y_wherein, y_next, y_working, y_ending, y_counts, y_made, y_entered, y_printCount, y_itemCount, y_text, y_firsts, y_rests, y_heads, y_lasts, y_globals, y_placeNames, y_placeValues, y_placeNexts, y_procedureForms, y_procedurePlaces, y_continuations, y_whats, y_withs, y_whereins, y_soFars, y_afters, y_found, y_foundNexts, y_arguments, y_prints, y_itemKinds, y_itemNumbers, y_pile) => x_ending = y_ending ∧ x_countedCount = y_counts ∧ x_consCount = y_made ∧ x_entryCount = y_entered ∧ ∃ pc : Nat, pc ≤ 20 ∧ x_outputCount = nI pc ∧ y_printCount = nI pc ∧ ∀ i, i < pc → x_outputs i = y_prints i
def fi_I (T : Nat → Nat) (n : Nat) (r : Int32) (u : SX) (v : SY) : Prop := tx_R T n u v ∧ match u, v with
  | (x_textLength, x_pairCount, x_placeCount, x_procedureCount, x_continuationCount, x_frameCount, x_state, x_ending, x_form, x_environment, x_frame, x_value, x_applied, x_argumentCount, x_countedCount, x_consCount, x_entryCount, x_outputCount, x_itemCount, x_text, x_firsts, x_rests, x_placeNames, x_placeValues, x_placeOuters, x_procedureParts, x_procedurePlaces, x_continuationFrames, x_frameTasks, x_frameForms, x_frameValues, x_framePlaces, x_frameNexts, x_arguments, x_outputs, x_itemKinds, x_itemNumbers, x_openLists), (y_size, y_pairs, y_open, y_formCount, y_places, y_procedures, y_continuationCount, y_things, y_foundCount, y_argumentCount, y_value, y_form, y_wherein, y_next, y_working, y_ending, y_counts, y_made, y_entered, y_printCount, y_itemCount, y_text, y_firsts, y_rests, y_heads, y_lasts, y_globals, y_placeNames, y_placeValues, y_placeNexts, y_procedureForms, y_procedurePlaces, y_continuations, y_whats, y_withs, y_whereins, y_soFars, y_afters, y_found, y_foundNexts, y_arguments, y_prints, y_itemKinds, y_itemNumbers, y_pile) => x_itemCount = r ∧ (r < 0 ∨ ∃ c : Nat, c ≤ 120 ∧ r = nI c ∧ ∀ j, j < c → x_itemKinds j = y_itemKinds j ∧ x_itemNumbers j = y_itemNumbers j)
section
variable {x_textLength : Int32} {x_pairCount : Int32} {x_placeCount : Int32} {x_procedureCount : Int32} {x_continuationCount : Int32} {x_frameCount : Int32} {x_state : Int32} {x_ending : Int32} {x_form : Int64} {x_environment : Int32} {x_frame : Int32} {x_value : Int64} {x_applied : Int64} {x_argumentCount : Int32} {x_countedCount : Int32} {x_consCount : Int32} {x_entryCount : Int32} {x_outputCount : Int32} {x_itemCount : Int32} {x_text : Nat → Int32} {x_firsts : Nat → Int64} {x_rests : Nat → Int64} {x_placeNames : Nat → Int32} {x_placeValues : Nat → Int64} {x_placeOuters : Nat → Int32} {x_procedureParts : Nat → Int64} {x_procedurePlaces : Nat → Int32} {x_continuationFrames : Nat → Int32} {x_frameTasks : Nat → Int32} {x_frameForms : Nat → Int64} {x_frameValues : Nat → Int64} {x_framePlaces : Nat → Int32} {x_frameNexts : Nat → Int32} {x_arguments : Nat → Int64} {x_outputs : Nat → Int32} {x_itemKinds : Nat → Int32} {x_itemNumbers : Nat → Int32} {x_openLists : Nat → Int64}
variable {y_size : Int32} {y_pairs : Int32} {y_open : Int32} {y_formCount : Int32} {y_places : Int32} {y_procedures : Int32} {y_continuationCount : Int32} {y_things : Int32} {y_foundCount : Int32} {y_argumentCount : Int32} {y_value : Int64} {y_form : Int64} {y_wherein : Int32} {y_next : Int32} {y_working : Int32} {y_ending : Int32} {y_counts : Int32} {y_made : Int32} {y_entered : Int32} {y_printCount : Int32} {y_itemCount : Int32} {y_text : Nat → Int32} {y_firsts : Nat → Int64} {y_rests : Nat → Int64} {y_heads : Nat → Int32} {y_lasts : Nat → Int32} {y_globals : Nat → Int64} {y_placeNames : Nat → Int32} {y_placeValues : Nat → Int64} {y_placeNexts : Nat → Int32} {y_procedureForms : Nat → Int64} {y_procedurePlaces : Nat → Int32} {y_continuations : Nat → Int32} {y_whats : Nat → Int32} {y_withs : Nat → Int64} {y_whereins : Nat → Int32} {y_soFars : Nat → Int32} {y_afters : Nat → Int32} {y_found : Nat → Int64} {y_foundNexts : Nat → Int32} {y_arguments : Nat → Int64} {y_prints : Nat → Int32} {y_itemKinds : Nat → Int32} {y_itemNumbers : Nat → Int32} {y_pile : Nat → Int64}
variable {T : Nat → Nat} {n : Nat}
theorem fi_all (h : tx_R T n (x_textLength, x_pairCount, x_placeCount, x_procedureCount, x_continuationCount, x_frameCount, x_state, x_ending, x_form, x_environment, x_frame, x_value, x_applied, x_argumentCount, x_countedCount, x_consCount, x_entryCount, x_outputCount, x_itemCount, x_text, x_firsts, x_rests, x_placeNames, x_placeValues, x_placeOuters, x_procedureParts, x_procedurePlaces, x_continuationFrames, x_frameTasks, x_frameForms, x_frameValues, x_framePlaces, x_frameNexts, x_arguments, x_outputs, x_itemKinds, x_itemNumbers, x_openLists) (y_size, y_pairs, y_open, y_formCount, y_places, y_procedures, y_continuationCount, y_things, y_foundCount, y_argumentCount, y_value, y_form, y_wherein, y_next, y_working, y_ending, y_counts, y_made, y_entered, y_printCount, y_itemCount, y_text, y_firsts, y_rests, y_heads, y_lasts, y_globals, y_placeNames, y_placeValues, y_placeNexts, y_procedureForms, y_procedurePlaces, y_continuations, y_whats, y_withs, y_whereins, y_soFars, y_afters, y_found, y_foundNexts, y_arguments, y_prints, y_itemKinds, y_itemNumbers, y_pile)) : ∃ u' v' w' r, fi_R T n u' v' ∧ fi_I T n r u' w' ∧ (∀ post : SX → Prop, post u' → wpX_perform post (x_textLength, x_pairCount, x_placeCount, x_procedureCount, x_continuationCount, x_frameCount, x_state, x_ending, x_form, x_environment, x_frame, x_value, x_applied, x_argumentCount, x_countedCount, x_consCount, x_entryCount, x_outputCount, x_itemCount, x_text, x_firsts, x_rests, x_placeNames, x_placeValues, x_placeOuters, x_procedureParts, x_procedurePlaces, x_continuationFrames, x_frameTasks, x_frameForms, x_frameValues, x_framePlaces, x_frameNexts, x_arguments, x_outputs, x_itemKinds, x_itemNumbers, x_openLists)) ∧ (∀ post : SY → Prop, post v' → wpY_runText post (y_size, y_pairs, y_open, y_formCount, y_places, y_procedures, y_continuationCount, y_things, y_foundCount, y_argumentCount, y_value, y_form, y_wherein, y_next, y_working, y_ending, y_counts, y_made, y_entered, y_printCount, y_itemCount, y_text, y_firsts, y_rests, y_heads, y_lasts, y_globals, y_placeNames, y_placeValues, y_placeNexts, y_procedureForms, y_procedurePlaces, y_continuations, y_whats, y_withs, y_whereins, y_soFars, y_afters, y_found, y_foundNexts, y_arguments, y_prints, y_itemKinds, y_itemNumbers, y_pile)) ∧ (∀ post : Int32 → SY → Prop, post r w' → wpY_countItems post (y_size, y_pairs, y_open, y_formCount, y_places, y_procedures, y_continuationCount, y_things, y_foundCount, y_argumentCount, y_value, y_form, y_wherein, y_next, y_working, y_ending, y_counts, y_made, y_entered, y_printCount, y_itemCount, y_text, y_firsts, y_rests, y_heads, y_lasts, y_globals, y_placeNames, y_placeValues, y_placeNexts, y_procedureForms, y_procedurePlaces, y_continuations, y_whats, y_withs, y_whereins, y_soFars, y_afters, y_found, y_foundNexts, y_arguments, y_prints, y_itemKinds, y_itemNumbers, y_pile)) := by
  obtain ⟨u, v, hr, hX, hY⟩ := run_all h
  rcases hr with hE | hD
  · obtain ⟨x_textLength, x_pairCount, x_placeCount, x_procedureCount, x_continuationCount, x_frameCount, x_state, x_ending, x_form, x_environment, x_frame, x_value, x_applied, x_argumentCount, x_countedCount, x_consCount, x_entryCount, x_outputCount, x_itemCount, x_text, x_firsts, x_rests, x_placeNames, x_placeValues, x_placeOuters, x_procedureParts, x_procedurePlaces, x_continuationFrames, x_frameTasks, x_frameForms, x_frameValues, x_framePlaces, x_frameNexts, x_arguments, x_outputs, x_itemKinds, x_itemNumbers, x_openLists⟩ := u
    obtain ⟨y_size, y_pairs, y_open, y_formCount, y_places, y_procedures, y_continuationCount, y_things, y_foundCount, y_argumentCount, y_value, y_form, y_wherein, y_next, y_working, y_ending, y_counts, y_made, y_entered, y_printCount, y_itemCount, y_text, y_firsts, y_rests, y_heads, y_lasts, y_globals, y_placeNames, y_placeValues, y_placeNexts, y_procedureForms, y_procedurePlaces, y_continuations, y_whats, y_withs, y_whereins, y_soFars, y_afters, y_found, y_foundNexts, y_arguments, y_prints, y_itemKinds, y_itemNumbers, y_pile⟩ := v
    obtain ⟨e, pc, h1, h2, h3, h4, h5, h6, h7, h8, h9, h10, h11, h12, h13⟩ := hE
    have hne : ¬ x_ending = 0 := by rw [h5]; exact nI_ne0 (by omega) (by omega)
    have hny : ¬ y_ending = 0 := by rw [h6]; exact nI_ne0 (by omega) (by omega)
    have hnn : ¬ y_ending = -1000000003 := by
      rw [h6]
      intro z
      exact nI_pos (n := e) (by omega) (by rw [z]; decide)
    refine ⟨(x_textLength, x_pairCount, x_placeCount, x_procedureCount, x_continuationCount, x_frameCount, x_state, x_ending, x_form, x_environment, x_frame, x_value, x_applied, x_argumentCount, x_countedCount, x_consCount, x_entryCount, x_outputCount, x_itemCount, x_text, x_firsts, x_rests, x_placeNames, x_placeValues, x_placeOuters, x_procedureParts, x_procedurePlaces, x_continuationFrames, x_frameTasks, x_frameForms, x_frameValues, x_framePlaces, x_frameNexts, x_arguments, x_outputs, x_itemKinds, x_itemNumbers, x_openLists), (y_size, y_pairs, y_open, y_formCount, y_places, y_procedures, y_continuationCount, y_things, y_foundCount, y_argumentCount, y_value, y_form, y_wherein, y_next, y_working, y_ending, y_counts, y_made, y_entered, y_printCount, y_itemCount, y_text, y_firsts, y_rests, y_heads, y_lasts, y_globals, y_placeNames, y_placeValues, y_placeNexts, y_procedureForms, y_procedurePlaces, y_continuations, y_whats, y_withs, y_whereins, y_soFars, y_afters, y_found, y_foundNexts, y_arguments, y_prints, y_itemKinds, y_itemNumbers, y_pile), (y_size, y_pairs, y_open, y_formCount, y_places, y_procedures, y_continuationCount, y_things, y_foundCount, y_argumentCount, y_value, y_form, y_wherein, y_next, y_working, y_ending, y_counts, y_made, y_entered, y_printCount, y_itemCount, y_text, y_firsts, y_rests, y_heads, y_lasts, y_globals, y_placeNames, y_placeValues, y_placeNexts, y_procedureForms, y_procedurePlaces, y_continuations, y_whats, y_withs, y_whereins, y_soFars, y_afters, y_found, y_foundNexts, y_arguments, y_prints, y_itemKinds, y_itemNumbers, y_pile), -1000000003, ⟨h1, h5.trans h6.symm, h7, h8, h9, pc, h4, h10, h11, h12⟩, ⟨h1, h13, Or.inl (by decide)⟩, fun post hp => hX post (br_f hne hp), fun post hp => hY post (br_f hnn hp), fun post hp => ?_⟩
    unfold wpY_countItems
    exact hY _ (br_f hnn (br_f hny hp))
  · obtain ⟨x_textLength, x_pairCount, x_placeCount, x_procedureCount, x_continuationCount, x_frameCount, x_state, x_ending, x_form, x_environment, x_frame, x_value, x_applied, x_argumentCount, x_countedCount, x_consCount, x_entryCount, x_outputCount, x_itemCount, x_text, x_firsts, x_rests, x_placeNames, x_placeValues, x_placeOuters, x_procedureParts, x_procedurePlaces, x_continuationFrames, x_frameTasks, x_frameForms, x_frameValues, x_framePlaces, x_frameNexts, x_arguments, x_outputs, x_itemKinds, x_itemNumbers, x_openLists⟩ := u
    obtain ⟨y_size, y_pairs, y_open, y_formCount, y_places, y_procedures, y_continuationCount, y_things, y_foundCount, y_argumentCount, y_value, y_form, y_wherein, y_next, y_working, y_ending, y_counts, y_made, y_entered, y_printCount, y_itemCount, y_text, y_firsts, y_rests, y_heads, y_lasts, y_globals, y_placeNames, y_placeValues, y_placeNexts, y_procedureForms, y_procedurePlaces, y_continuations, y_whats, y_withs, y_whereins, y_soFars, y_afters, y_found, y_foundNexts, y_arguments, y_prints, y_itemKinds, y_itemNumbers, y_pile⟩ := v
    obtain ⟨M, G, px, py, pl, np, nc, nf, fo, co, cn, et, pc, hR, hfo, h1, h2, hV⟩ := hD
    obtain ⟨a0, ⟨n1, n2, n3, n4, n5, n6, n7, n8, n9, n10, n11⟩, ⟨m1, m2, m3, m4, m5, m6, m7, m8, m9, m10, m11⟩, b0, c1, c2, c3, c4, c5, c6, c7, c8⟩ := hR
    subst h1 h2
    obtain ⟨cx, kx, nx, ol, cy, ky, ny, pi, hF, gX, gY⟩ := wr_main (x_textLength := x_textLength) (x_pairCount := x_pairCount) (x_placeCount := x_placeCount) (x_procedureCount := x_procedureCount) (x_continuationCount := x_continuationCount) (x_frameCount := x_frameCount) (x_state := x_state) (x_ending := 0) (x_form := x_form) (x_environment := x_environment) (x_frame := x_frame) (x_value := x_value) (x_applied := x_applied) (x_argumentCount := x_argumentCount) (x_countedCount := x_countedCount) (x_consCount := x_consCount) (x_entryCount := x_entryCount) (x_outputCount := x_outputCount) (x_text := x_text) (x_placeNames := x_placeNames) (x_placeValues := x_placeValues) (x_placeOuters := x_placeOuters) (x_procedureParts := x_procedureParts) (x_procedurePlaces := x_procedurePlaces) (x_continuationFrames := x_continuationFrames) (x_frameTasks := x_frameTasks) (x_frameForms := x_frameForms) (x_frameValues := x_frameValues) (x_framePlaces := x_framePlaces) (x_frameNexts := x_frameNexts) (x_arguments := x_arguments) (x_outputs := x_outputs) (y_size := y_size) (y_pairs := y_pairs) (y_open := y_open) (y_formCount := y_formCount) (y_places := y_places) (y_procedures := y_procedures) (y_continuationCount := y_continuationCount) (y_things := y_things) (y_foundCount := y_foundCount) (y_argumentCount := y_argumentCount) (y_value := y_value) (y_form := y_form) (y_wherein := y_wherein) (y_next := y_next) (y_working := y_working) (y_ending := 0) (y_counts := y_counts) (y_made := y_made) (y_entered := y_entered) (y_printCount := y_printCount) (y_text := y_text) (y_heads := y_heads) (y_lasts := y_lasts) (y_globals := y_globals) (y_placeNames := y_placeNames) (y_placeValues := y_placeValues) (y_placeNexts := y_placeNexts) (y_procedureForms := y_procedureForms) (y_procedurePlaces := y_procedurePlaces) (y_continuations := y_continuations) (y_whats := y_whats) (y_withs := y_withs) (y_whereins := y_whereins) (y_soFars := y_soFars) (y_afters := y_afters) (y_found := y_found) (y_foundNexts := y_foundNexts) (y_arguments := y_arguments) (y_prints := y_prints) c2.1 (by omega) (by omega) _ 0 0 1 0 x_value x_itemKinds x_itemNumbers x_openLists y_itemKinds y_itemNumbers (vp_updL y_pile 0 y_value) (Nat.le_refl _) (by decide) (by decide) (by decide) (by decide) (by decide) (fun j hj => by omega) (fun j hj => by omega) (fun _ => by rw [pk_uLs]; exact hV)
    have hXw : ∀ post : SX → Prop, wX_write_176 post x_textLength x_pairCount x_placeCount x_procedureCount x_continuationCount x_frameCount x_state 0 x_form x_environment x_frame x_value x_applied x_argumentCount x_countedCount x_consCount x_entryCount x_outputCount (nI cx) x_text x_firsts x_rests x_placeNames x_placeValues x_placeOuters x_procedureParts x_procedurePlaces x_continuationFrames x_frameTasks x_frameForms x_frameValues x_framePlaces x_frameNexts x_arguments x_outputs kx nx ol → wpX_write post (x_textLength, x_pairCount, x_placeCount, x_procedureCount, x_continuationCount, x_frameCount, x_state, 0, x_form, x_environment, x_frame, x_value, x_applied, x_argumentCount, x_countedCount, x_consCount, x_entryCount, x_outputCount, x_itemCount, x_text, x_firsts, x_rests, x_placeNames, x_placeValues, x_placeOuters, x_procedureParts, x_procedurePlaces, x_continuationFrames, x_frameTasks, x_frameForms, x_frameValues, x_framePlaces, x_frameNexts, x_arguments, x_outputs, x_itemKinds, x_itemNumbers, x_openLists) := fun post hp => gX post hp
    have hYw : ∀ post : SY → Prop, post (y_size, y_pairs, y_open, y_formCount, y_places, y_procedures, y_continuationCount, y_things, y_foundCount, y_argumentCount, y_value, y_form, y_wherein, y_next, y_working, 0, y_counts, y_made, y_entered, y_printCount, nI cy, y_text, y_firsts, y_rests, y_heads, y_lasts, y_globals, y_placeNames, y_placeValues, y_placeNexts, y_procedureForms, y_procedurePlaces, y_continuations, y_whats, y_withs, y_whereins, y_soFars, y_afters, y_found, y_foundNexts, y_arguments, y_prints, ky, ny, pi) → wpY_write post (y_size, y_pairs, y_open, y_formCount, y_places, y_procedures, y_continuationCount, y_things, y_foundCount, y_argumentCount, y_value, y_form, y_wherein, y_next, y_working, 0, y_counts, y_made, y_entered, y_printCount, y_itemCount, y_text, y_firsts, y_rests, y_heads, y_lasts, y_globals, y_placeNames, y_placeValues, y_placeNexts, y_procedureForms, y_procedurePlaces, y_continuations, y_whats, y_withs, y_whereins, y_soFars, y_afters, y_found, y_foundNexts, y_arguments, y_prints, y_itemKinds, y_itemNumbers, y_pile) := fun post hp => nm_e (gY post hp)
    have hYr := fun (post : SY → Prop) (hp : post (y_size, y_pairs, y_open, y_formCount, y_places, y_procedures, y_continuationCount, y_things, y_foundCount, y_argumentCount, y_value, y_form, y_wherein, y_next, y_working, 0, y_counts, y_made, y_entered, y_printCount, y_itemCount, y_text, y_firsts, y_rests, y_heads, y_lasts, y_globals, y_placeNames, y_placeValues, y_placeNexts, y_procedureForms, y_procedurePlaces, y_continuations, y_whats, y_withs, y_whereins, y_soFars, y_afters, y_found, y_foundNexts, y_arguments, y_prints, y_itemKinds, y_itemNumbers, y_pile)) => hY post (br_t rfl hp)
    rcases hF with ⟨f1, f2, f3⟩ | ⟨f1, f2, f3, f4⟩
    · subst f2
      refine ⟨(x_textLength, x_pairCount, x_placeCount, x_procedureCount, x_continuationCount, x_frameCount, x_state, 0, x_form, x_environment, x_frame, x_value, x_applied, x_argumentCount, x_countedCount, x_consCount, x_entryCount, x_outputCount, nI cy, x_text, x_firsts, x_rests, x_placeNames, x_placeValues, x_placeOuters, x_procedureParts, x_procedurePlaces, x_continuationFrames, x_frameTasks, x_frameForms, x_frameValues, x_framePlaces, x_frameNexts, x_arguments, x_outputs, kx, nx, ol), (y_size, y_pairs, y_open, y_formCount, y_places, y_procedures, y_continuationCount, y_things, y_foundCount, y_argumentCount, y_value, y_form, y_wherein, y_next, y_working, 0, y_counts, y_made, y_entered, y_printCount, y_itemCount, y_text, y_firsts, y_rests, y_heads, y_lasts, y_globals, y_placeNames, y_placeValues, y_placeNexts, y_procedureForms, y_procedurePlaces, y_continuations, y_whats, y_withs, y_whereins, y_soFars, y_afters, y_found, y_foundNexts, y_arguments, y_prints, y_itemKinds, y_itemNumbers, y_pile), (y_size, y_pairs, y_open, y_formCount, y_places, y_procedures, y_continuationCount, y_things, y_foundCount, y_argumentCount, y_value, y_form, y_wherein, y_next, y_working, 0, y_counts, y_made, y_entered, y_printCount, nI cy, y_text, y_firsts, y_rests, y_heads, y_lasts, y_globals, y_placeNames, y_placeValues, y_placeNexts, y_procedureForms, y_procedurePlaces, y_continuations, y_whats, y_withs, y_whereins, y_soFars, y_afters, y_found, y_foundNexts, y_arguments, y_prints, ky, ny, pi), nI cy, ⟨⟨a0.2.1, a0.2.2.1, n1, m1, a0.2.2.2⟩, rfl, n7.trans m8.symm, n8.trans m9.symm, n9.trans m10.symm, pc, by omega, n10, m11, c8⟩, ⟨⟨a0.2.1, a0.2.2.1, n1, m1, a0.2.2.2⟩, rfl, Or.inr ⟨cy, f1, rfl, f3⟩⟩, fun post hp => hX post (br_t rfl (hXw _ (br_t (nI_le (b := 120) f1 (by decide)) hp))), hYr, fun post hp => ?_⟩
      unfold wpY_countItems
      exact hYr _ (br_t rfl (hYw _ (br_t (nI_le (b := 120) f1 (by decide)) hp)))
    · refine ⟨(x_textLength, x_pairCount, x_placeCount, x_procedureCount, x_continuationCount, x_frameCount, x_state, 0, x_form, x_environment, x_frame, x_value, x_applied, x_argumentCount, x_countedCount, x_consCount, x_entryCount, x_outputCount, -1000000004, x_text, x_firsts, x_rests, x_placeNames, x_placeValues, x_placeOuters, x_procedureParts, x_procedurePlaces, x_continuationFrames, x_frameTasks, x_frameForms, x_frameValues, x_framePlaces, x_frameNexts, x_arguments, x_outputs, kx, nx, ol), (y_size, y_pairs, y_open, y_formCount, y_places, y_procedures, y_continuationCount, y_things, y_foundCount, y_argumentCount, y_value, y_form, y_wherein, y_next, y_working, 0, y_counts, y_made, y_entered, y_printCount, y_itemCount, y_text, y_firsts, y_rests, y_heads, y_lasts, y_globals, y_placeNames, y_placeValues, y_placeNexts, y_procedureForms, y_procedurePlaces, y_continuations, y_whats, y_withs, y_whereins, y_soFars, y_afters, y_found, y_foundNexts, y_arguments, y_prints, y_itemKinds, y_itemNumbers, y_pile), (y_size, y_pairs, y_open, y_formCount, y_places, y_procedures, y_continuationCount, y_things, y_foundCount, y_argumentCount, y_value, y_form, y_wherein, y_next, y_working, 0, y_counts, y_made, y_entered, y_printCount, nI cy, y_text, y_firsts, y_rests, y_heads, y_lasts, y_globals, y_placeNames, y_placeValues, y_placeNexts, y_procedureForms, y_procedurePlaces, y_continuations, y_whats, y_withs, y_whereins, y_soFars, y_afters, y_found, y_foundNexts, y_arguments, y_prints, ky, ny, pi), -1000000004, ⟨⟨a0.2.1, a0.2.2.1, n1, m1, a0.2.2.2⟩, rfl, n7.trans m8.symm, n8.trans m9.symm, n9.trans m10.symm, pc, by omega, n10, m11, c8⟩, ⟨⟨a0.2.1, a0.2.2.1, n1, m1, a0.2.2.2⟩, rfl, Or.inl (by decide)⟩, fun post hp => hX post (br_t rfl (hXw _ (br_f (nI_ge (a := 120) f1 (by omega)) hp))), hYr, fun post hp => ?_⟩
      unfold wpY_countItems
      exact hYr _ (br_t rfl (hYw _ (br_f (nI_ge (a := 120) f3 (by omega)) hp)))
end
end
section
/-! the questions about the run -/
theorem i_vc_run {k : Nat} {u : SX} {v : SY} (I : i_Rel k u v) (hk : k + 5 ≤ 2560) : wpX_run (fun r u' => wpY_run (fun r' v' => r' = r ∧ i_Rel (k + 5) u' v') v) u := by
  obtain ⟨x_textLength, x_pairCount, x_placeCount, x_procedureCount, x_continuationCount, x_frameCount, x_state, x_ending, x_form, x_environment, x_frame, x_value, x_applied, x_argumentCount, x_countedCount, x_consCount, x_entryCount, x_outputCount, x_itemCount, x_text, x_firsts, x_rests, x_placeNames, x_placeValues, x_placeOuters, x_procedureParts, x_procedurePlaces, x_continuationFrames, x_frameTasks, x_frameForms, x_frameValues, x_framePlaces, x_frameNexts, x_arguments, x_outputs, x_itemKinds, x_itemNumbers, x_openLists⟩ := u
  obtain ⟨y_size, y_pairs, y_open, y_formCount, y_places, y_procedures, y_continuationCount, y_things, y_foundCount, y_argumentCount, y_value, y_form, y_wherein, y_next, y_working, y_ending, y_counts, y_made, y_entered, y_printCount, y_itemCount, y_text, y_firsts, y_rests, y_heads, y_lasts, y_globals, y_placeNames, y_placeValues, y_placeNexts, y_procedureForms, y_procedurePlaces, y_continuations, y_whats, y_withs, y_whereins, y_soFars, y_afters, y_found, y_foundNexts, y_arguments, y_prints, y_itemKinds, y_itemNumbers, y_pile⟩ := v
  obtain ⟨T, n, I⟩ := I
  obtain ⟨u', v', w', r, hR, _, hX, hY, _⟩ := fi_all I
  unfold wpX_run
  refine hX _ ?_
  obtain ⟨x_textLength, x_pairCount, x_placeCount, x_procedureCount, x_continuationCount, x_frameCount, x_state, x_ending, x_form, x_environment, x_frame, x_value, x_applied, x_argumentCount, x_countedCount, x_consCount, x_entryCount, x_outputCount, x_itemCount, x_text, x_firsts, x_rests, x_placeNames, x_placeValues, x_placeOuters, x_procedureParts, x_procedurePlaces, x_continuationFrames, x_frameTasks, x_frameForms, x_frameValues, x_framePlaces, x_frameNexts, x_arguments, x_outputs, x_itemKinds, x_itemNumbers, x_openLists⟩ := u'
  unfold wpY_run
  refine hY _ ?_
  obtain ⟨y_size, y_pairs, y_open, y_formCount, y_places, y_procedures, y_continuationCount, y_things, y_foundCount, y_argumentCount, y_value, y_form, y_wherein, y_next, y_working, y_ending, y_counts, y_made, y_entered, y_printCount, y_itemCount, y_text, y_firsts, y_rests, y_heads, y_lasts, y_globals, y_placeNames, y_placeValues, y_placeNexts, y_procedureForms, y_procedurePlaces, y_continuations, y_whats, y_withs, y_whereins, y_soFars, y_afters, y_found, y_foundNexts, y_arguments, y_prints, y_itemKinds, y_itemNumbers, y_pile⟩ := v'
  obtain ⟨h1, h2, h3, h4, h5, pc, h6, h7, h8, h9⟩ := hR
  exact ⟨h2.symm, T, n, h1⟩
theorem i_vc_printed {k : Nat} {u : SX} {v : SY} (I : i_Rel k u v) (hk : k + 5 ≤ 2560) : wpX_printed (fun r u' => wpY_printed (fun r' v' => r' = r ∧ i_Rel (k + 5) u' v') v) u := by
  obtain ⟨x_textLength, x_pairCount, x_placeCount, x_procedureCount, x_continuationCount, x_frameCount, x_state, x_ending, x_form, x_environment, x_frame, x_value, x_applied, x_argumentCount, x_countedCount, x_consCount, x_entryCount, x_outputCount, x_itemCount, x_text, x_firsts, x_rests, x_placeNames, x_placeValues, x_placeOuters, x_procedureParts, x_procedurePlaces, x_continuationFrames, x_frameTasks, x_frameForms, x_frameValues, x_framePlaces, x_frameNexts, x_arguments, x_outputs, x_itemKinds, x_itemNumbers, x_openLists⟩ := u
  obtain ⟨y_size, y_pairs, y_open, y_formCount, y_places, y_procedures, y_continuationCount, y_things, y_foundCount, y_argumentCount, y_value, y_form, y_wherein, y_next, y_working, y_ending, y_counts, y_made, y_entered, y_printCount, y_itemCount, y_text, y_firsts, y_rests, y_heads, y_lasts, y_globals, y_placeNames, y_placeValues, y_placeNexts, y_procedureForms, y_procedurePlaces, y_continuations, y_whats, y_withs, y_whereins, y_soFars, y_afters, y_found, y_foundNexts, y_arguments, y_prints, y_itemKinds, y_itemNumbers, y_pile⟩ := v
  obtain ⟨T, n, I⟩ := I
  obtain ⟨u', v', w', r, hR, _, hX, hY, _⟩ := fi_all I
  unfold wpX_printed
  refine hX _ ?_
  obtain ⟨x_textLength, x_pairCount, x_placeCount, x_procedureCount, x_continuationCount, x_frameCount, x_state, x_ending, x_form, x_environment, x_frame, x_value, x_applied, x_argumentCount, x_countedCount, x_consCount, x_entryCount, x_outputCount, x_itemCount, x_text, x_firsts, x_rests, x_placeNames, x_placeValues, x_placeOuters, x_procedureParts, x_procedurePlaces, x_continuationFrames, x_frameTasks, x_frameForms, x_frameValues, x_framePlaces, x_frameNexts, x_arguments, x_outputs, x_itemKinds, x_itemNumbers, x_openLists⟩ := u'
  unfold wpY_printed
  refine hY _ ?_
  obtain ⟨y_size, y_pairs, y_open, y_formCount, y_places, y_procedures, y_continuationCount, y_things, y_foundCount, y_argumentCount, y_value, y_form, y_wherein, y_next, y_working, y_ending, y_counts, y_made, y_entered, y_printCount, y_itemCount, y_text, y_firsts, y_rests, y_heads, y_lasts, y_globals, y_placeNames, y_placeValues, y_placeNexts, y_procedureForms, y_procedurePlaces, y_continuations, y_whats, y_withs, y_whereins, y_soFars, y_afters, y_found, y_foundNexts, y_arguments, y_prints, y_itemKinds, y_itemNumbers, y_pile⟩ := v'
  obtain ⟨h1, h2, h3, h4, h5, pc, h6, h7, h8, h9⟩ := hR
  exact ⟨h8.trans h7.symm, T, n, h1⟩
theorem i_vc_counted {k : Nat} {u : SX} {v : SY} (I : i_Rel k u v) (hk : k + 5 ≤ 2560) : wpX_counted (fun r u' => wpY_counted (fun r' v' => r' = r ∧ i_Rel (k + 5) u' v') v) u := by
  obtain ⟨x_textLength, x_pairCount, x_placeCount, x_procedureCount, x_continuationCount, x_frameCount, x_state, x_ending, x_form, x_environment, x_frame, x_value, x_applied, x_argumentCount, x_countedCount, x_consCount, x_entryCount, x_outputCount, x_itemCount, x_text, x_firsts, x_rests, x_placeNames, x_placeValues, x_placeOuters, x_procedureParts, x_procedurePlaces, x_continuationFrames, x_frameTasks, x_frameForms, x_frameValues, x_framePlaces, x_frameNexts, x_arguments, x_outputs, x_itemKinds, x_itemNumbers, x_openLists⟩ := u
  obtain ⟨y_size, y_pairs, y_open, y_formCount, y_places, y_procedures, y_continuationCount, y_things, y_foundCount, y_argumentCount, y_value, y_form, y_wherein, y_next, y_working, y_ending, y_counts, y_made, y_entered, y_printCount, y_itemCount, y_text, y_firsts, y_rests, y_heads, y_lasts, y_globals, y_placeNames, y_placeValues, y_placeNexts, y_procedureForms, y_procedurePlaces, y_continuations, y_whats, y_withs, y_whereins, y_soFars, y_afters, y_found, y_foundNexts, y_arguments, y_prints, y_itemKinds, y_itemNumbers, y_pile⟩ := v
  obtain ⟨T, n, I⟩ := I
  obtain ⟨u', v', w', r, hR, _, hX, hY, _⟩ := fi_all I
  unfold wpX_counted
  refine hX _ ?_
  obtain ⟨x_textLength, x_pairCount, x_placeCount, x_procedureCount, x_continuationCount, x_frameCount, x_state, x_ending, x_form, x_environment, x_frame, x_value, x_applied, x_argumentCount, x_countedCount, x_consCount, x_entryCount, x_outputCount, x_itemCount, x_text, x_firsts, x_rests, x_placeNames, x_placeValues, x_placeOuters, x_procedureParts, x_procedurePlaces, x_continuationFrames, x_frameTasks, x_frameForms, x_frameValues, x_framePlaces, x_frameNexts, x_arguments, x_outputs, x_itemKinds, x_itemNumbers, x_openLists⟩ := u'
  unfold wpY_counted
  refine hY _ ?_
  obtain ⟨y_size, y_pairs, y_open, y_formCount, y_places, y_procedures, y_continuationCount, y_things, y_foundCount, y_argumentCount, y_value, y_form, y_wherein, y_next, y_working, y_ending, y_counts, y_made, y_entered, y_printCount, y_itemCount, y_text, y_firsts, y_rests, y_heads, y_lasts, y_globals, y_placeNames, y_placeValues, y_placeNexts, y_procedureForms, y_procedurePlaces, y_continuations, y_whats, y_withs, y_whereins, y_soFars, y_afters, y_found, y_foundNexts, y_arguments, y_prints, y_itemKinds, y_itemNumbers, y_pile⟩ := v'
  obtain ⟨h1, h2, h3, h4, h5, pc, h6, h7, h8, h9⟩ := hR
  exact ⟨h3.symm, T, n, h1⟩
theorem i_vc_conses {k : Nat} {u : SX} {v : SY} (I : i_Rel k u v) (hk : k + 5 ≤ 2560) : wpX_conses (fun r u' => wpY_conses (fun r' v' => r' = r ∧ i_Rel (k + 5) u' v') v) u := by
  obtain ⟨x_textLength, x_pairCount, x_placeCount, x_procedureCount, x_continuationCount, x_frameCount, x_state, x_ending, x_form, x_environment, x_frame, x_value, x_applied, x_argumentCount, x_countedCount, x_consCount, x_entryCount, x_outputCount, x_itemCount, x_text, x_firsts, x_rests, x_placeNames, x_placeValues, x_placeOuters, x_procedureParts, x_procedurePlaces, x_continuationFrames, x_frameTasks, x_frameForms, x_frameValues, x_framePlaces, x_frameNexts, x_arguments, x_outputs, x_itemKinds, x_itemNumbers, x_openLists⟩ := u
  obtain ⟨y_size, y_pairs, y_open, y_formCount, y_places, y_procedures, y_continuationCount, y_things, y_foundCount, y_argumentCount, y_value, y_form, y_wherein, y_next, y_working, y_ending, y_counts, y_made, y_entered, y_printCount, y_itemCount, y_text, y_firsts, y_rests, y_heads, y_lasts, y_globals, y_placeNames, y_placeValues, y_placeNexts, y_procedureForms, y_procedurePlaces, y_continuations, y_whats, y_withs, y_whereins, y_soFars, y_afters, y_found, y_foundNexts, y_arguments, y_prints, y_itemKinds, y_itemNumbers, y_pile⟩ := v
  obtain ⟨T, n, I⟩ := I
  obtain ⟨u', v', w', r, hR, _, hX, hY, _⟩ := fi_all I
  unfold wpX_conses
  refine hX _ ?_
  obtain ⟨x_textLength, x_pairCount, x_placeCount, x_procedureCount, x_continuationCount, x_frameCount, x_state, x_ending, x_form, x_environment, x_frame, x_value, x_applied, x_argumentCount, x_countedCount, x_consCount, x_entryCount, x_outputCount, x_itemCount, x_text, x_firsts, x_rests, x_placeNames, x_placeValues, x_placeOuters, x_procedureParts, x_procedurePlaces, x_continuationFrames, x_frameTasks, x_frameForms, x_frameValues, x_framePlaces, x_frameNexts, x_arguments, x_outputs, x_itemKinds, x_itemNumbers, x_openLists⟩ := u'
  unfold wpY_conses
  refine hY _ ?_
  obtain ⟨y_size, y_pairs, y_open, y_formCount, y_places, y_procedures, y_continuationCount, y_things, y_foundCount, y_argumentCount, y_value, y_form, y_wherein, y_next, y_working, y_ending, y_counts, y_made, y_entered, y_printCount, y_itemCount, y_text, y_firsts, y_rests, y_heads, y_lasts, y_globals, y_placeNames, y_placeValues, y_placeNexts, y_procedureForms, y_procedurePlaces, y_continuations, y_whats, y_withs, y_whereins, y_soFars, y_afters, y_found, y_foundNexts, y_arguments, y_prints, y_itemKinds, y_itemNumbers, y_pile⟩ := v'
  obtain ⟨h1, h2, h3, h4, h5, pc, h6, h7, h8, h9⟩ := hR
  exact ⟨h4.symm, T, n, h1⟩
theorem i_vc_entries {k : Nat} {u : SX} {v : SY} (I : i_Rel k u v) (hk : k + 5 ≤ 2560) : wpX_entries (fun r u' => wpY_entries (fun r' v' => r' = r ∧ i_Rel (k + 5) u' v') v) u := by
  obtain ⟨x_textLength, x_pairCount, x_placeCount, x_procedureCount, x_continuationCount, x_frameCount, x_state, x_ending, x_form, x_environment, x_frame, x_value, x_applied, x_argumentCount, x_countedCount, x_consCount, x_entryCount, x_outputCount, x_itemCount, x_text, x_firsts, x_rests, x_placeNames, x_placeValues, x_placeOuters, x_procedureParts, x_procedurePlaces, x_continuationFrames, x_frameTasks, x_frameForms, x_frameValues, x_framePlaces, x_frameNexts, x_arguments, x_outputs, x_itemKinds, x_itemNumbers, x_openLists⟩ := u
  obtain ⟨y_size, y_pairs, y_open, y_formCount, y_places, y_procedures, y_continuationCount, y_things, y_foundCount, y_argumentCount, y_value, y_form, y_wherein, y_next, y_working, y_ending, y_counts, y_made, y_entered, y_printCount, y_itemCount, y_text, y_firsts, y_rests, y_heads, y_lasts, y_globals, y_placeNames, y_placeValues, y_placeNexts, y_procedureForms, y_procedurePlaces, y_continuations, y_whats, y_withs, y_whereins, y_soFars, y_afters, y_found, y_foundNexts, y_arguments, y_prints, y_itemKinds, y_itemNumbers, y_pile⟩ := v
  obtain ⟨T, n, I⟩ := I
  obtain ⟨u', v', w', r, hR, _, hX, hY, _⟩ := fi_all I
  unfold wpX_entries
  refine hX _ ?_
  obtain ⟨x_textLength, x_pairCount, x_placeCount, x_procedureCount, x_continuationCount, x_frameCount, x_state, x_ending, x_form, x_environment, x_frame, x_value, x_applied, x_argumentCount, x_countedCount, x_consCount, x_entryCount, x_outputCount, x_itemCount, x_text, x_firsts, x_rests, x_placeNames, x_placeValues, x_placeOuters, x_procedureParts, x_procedurePlaces, x_continuationFrames, x_frameTasks, x_frameForms, x_frameValues, x_framePlaces, x_frameNexts, x_arguments, x_outputs, x_itemKinds, x_itemNumbers, x_openLists⟩ := u'
  unfold wpY_entries
  refine hY _ ?_
  obtain ⟨y_size, y_pairs, y_open, y_formCount, y_places, y_procedures, y_continuationCount, y_things, y_foundCount, y_argumentCount, y_value, y_form, y_wherein, y_next, y_working, y_ending, y_counts, y_made, y_entered, y_printCount, y_itemCount, y_text, y_firsts, y_rests, y_heads, y_lasts, y_globals, y_placeNames, y_placeValues, y_placeNexts, y_procedureForms, y_procedurePlaces, y_continuations, y_whats, y_withs, y_whereins, y_soFars, y_afters, y_found, y_foundNexts, y_arguments, y_prints, y_itemKinds, y_itemNumbers, y_pile⟩ := v'
  obtain ⟨h1, h2, h3, h4, h5, pc, h6, h7, h8, h9⟩ := hR
  exact ⟨h5.symm, T, n, h1⟩
theorem i_vc_items {k : Nat} {u : SX} {v : SY} (I : i_Rel k u v) (hk : k + 5 ≤ 2560) : wpX_items (fun r u' => wpY_items (fun r' v' => r' = r ∧ i_Rel (k + 5) u' v') v) u := by
  obtain ⟨x_textLength, x_pairCount, x_placeCount, x_procedureCount, x_continuationCount, x_frameCount, x_state, x_ending, x_form, x_environment, x_frame, x_value, x_applied, x_argumentCount, x_countedCount, x_consCount, x_entryCount, x_outputCount, x_itemCount, x_text, x_firsts, x_rests, x_placeNames, x_placeValues, x_placeOuters, x_procedureParts, x_procedurePlaces, x_continuationFrames, x_frameTasks, x_frameForms, x_frameValues, x_framePlaces, x_frameNexts, x_arguments, x_outputs, x_itemKinds, x_itemNumbers, x_openLists⟩ := u
  obtain ⟨y_size, y_pairs, y_open, y_formCount, y_places, y_procedures, y_continuationCount, y_things, y_foundCount, y_argumentCount, y_value, y_form, y_wherein, y_next, y_working, y_ending, y_counts, y_made, y_entered, y_printCount, y_itemCount, y_text, y_firsts, y_rests, y_heads, y_lasts, y_globals, y_placeNames, y_placeValues, y_placeNexts, y_procedureForms, y_procedurePlaces, y_continuations, y_whats, y_withs, y_whereins, y_soFars, y_afters, y_found, y_foundNexts, y_arguments, y_prints, y_itemKinds, y_itemNumbers, y_pile⟩ := v
  obtain ⟨T, n, I⟩ := I
  obtain ⟨u', v', w', r, _, hI, hX, _, hZ⟩ := fi_all I
  unfold wpX_items
  refine hX _ ?_
  obtain ⟨x_textLength, x_pairCount, x_placeCount, x_procedureCount, x_continuationCount, x_frameCount, x_state, x_ending, x_form, x_environment, x_frame, x_value, x_applied, x_argumentCount, x_countedCount, x_consCount, x_entryCount, x_outputCount, x_itemCount, x_text, x_firsts, x_rests, x_placeNames, x_placeValues, x_placeOuters, x_procedureParts, x_procedurePlaces, x_continuationFrames, x_frameTasks, x_frameForms, x_frameValues, x_framePlaces, x_frameNexts, x_arguments, x_outputs, x_itemKinds, x_itemNumbers, x_openLists⟩ := u'
  unfold wpY_items
  refine hZ _ ?_
  obtain ⟨y_size, y_pairs, y_open, y_formCount, y_places, y_procedures, y_continuationCount, y_things, y_foundCount, y_argumentCount, y_value, y_form, y_wherein, y_next, y_working, y_ending, y_counts, y_made, y_entered, y_printCount, y_itemCount, y_text, y_firsts, y_rests, y_heads, y_lasts, y_globals, y_placeNames, y_placeValues, y_placeNexts, y_procedureForms, y_procedurePlaces, y_continuations, y_whats, y_withs, y_whereins, y_soFars, y_afters, y_found, y_foundNexts, y_arguments, y_prints, y_itemKinds, y_itemNumbers, y_pile⟩ := w'
  obtain ⟨h1, h2, h3⟩ := hI
  exact ⟨h2.symm, T, n, h1⟩
theorem i_vc_kind {k : Nat} {u : SX} {v : SY} (I : i_Rel k u v) (hk : k + 5 ≤ 2560) (v1 : Int32) : wpX_kind (fun r u' => wpY_kind (fun r' v' => r' = r ∧ i_Rel (k + 5) u' v') v v1) u v1 := by
  obtain ⟨x_textLength, x_pairCount, x_placeCount, x_procedureCount, x_continuationCount, x_frameCount, x_state, x_ending, x_form, x_environment, x_frame, x_value, x_applied, x_argumentCount, x_countedCount, x_consCount, x_entryCount, x_outputCount, x_itemCount, x_text, x_firsts, x_rests, x_placeNames, x_placeValues, x_placeOuters, x_procedureParts, x_procedurePlaces, x_continuationFrames, x_frameTasks, x_frameForms, x_frameValues, x_framePlaces, x_frameNexts, x_arguments, x_outputs, x_itemKinds, x_itemNumbers, x_openLists⟩ := u
  obtain ⟨y_size, y_pairs, y_open, y_formCount, y_places, y_procedures, y_continuationCount, y_things, y_foundCount, y_argumentCount, y_value, y_form, y_wherein, y_next, y_working, y_ending, y_counts, y_made, y_entered, y_printCount, y_itemCount, y_text, y_firsts, y_rests, y_heads, y_lasts, y_globals, y_placeNames, y_placeValues, y_placeNexts, y_procedureForms, y_procedurePlaces, y_continuations, y_whats, y_withs, y_whereins, y_soFars, y_afters, y_found, y_foundNexts, y_arguments, y_prints, y_itemKinds, y_itemNumbers, y_pile⟩ := v
  obtain ⟨T, n, I⟩ := I
  obtain ⟨u', v', w', r, _, hI, hX, _, hZ⟩ := fi_all I
  unfold wpX_kind
  refine hX _ ?_
  obtain ⟨x_textLength, x_pairCount, x_placeCount, x_procedureCount, x_continuationCount, x_frameCount, x_state, x_ending, x_form, x_environment, x_frame, x_value, x_applied, x_argumentCount, x_countedCount, x_consCount, x_entryCount, x_outputCount, x_itemCount, x_text, x_firsts, x_rests, x_placeNames, x_placeValues, x_placeOuters, x_procedureParts, x_procedurePlaces, x_continuationFrames, x_frameTasks, x_frameForms, x_frameValues, x_framePlaces, x_frameNexts, x_arguments, x_outputs, x_itemKinds, x_itemNumbers, x_openLists⟩ := u'
  unfold wpY_kind
  obtain ⟨y_size, y_pairs, y_open, y_formCount, y_places, y_procedures, y_continuationCount, y_things, y_foundCount, y_argumentCount, y_value, y_form, y_wherein, y_next, y_working, y_ending, y_counts, y_made, y_entered, y_printCount, y_itemCount, y_text, y_firsts, y_rests, y_heads, y_lasts, y_globals, y_placeNames, y_placeValues, y_placeNexts, y_procedureForms, y_procedurePlaces, y_continuations, y_whats, y_withs, y_whereins, y_soFars, y_afters, y_found, y_foundNexts, y_arguments, y_prints, y_itemKinds, y_itemNumbers, y_pile⟩ := w'
  obtain ⟨h1, h2, h3⟩ := hI
  subst h2
  by_cases c0 : v1 < 0
  · exact br_t c0 (hZ _ (br_t c0 ⟨rfl, T, n, h1⟩))
  · refine br_f c0 ?_
    by_cases c1 : x_itemCount ≤ v1
    · exact br_t c1 (hZ _ (br_f c0 (br_t c1 ⟨rfl, T, n, h1⟩)))
    · obtain ⟨j, hj, rfl⟩ := nI_of c0
      rcases h3 with h3 | ⟨c, h3, h4, h5⟩
      · exact absurd (Int32.le_of_lt (Int32.lt_of_lt_of_le h3 (nI_pos' hj))) c1
      · subst h4
        have hjc : j < c := by
          by_cases z : j < c
          · exact z
          · exact absurd (nI_le (by omega) hj) c1
        have e : (nI j).toNatClampNeg = j := nI_clamp hj
        refine br_f c1 ⟨vp_in_nI (by omega) (by decide), hZ _ (br_f c0 (br_f c1 ⟨vp_in_nI (by omega) (by decide), ?_, T, n, h1⟩))⟩
        rw [e]
        exact (h5 j hjc).1.symm
theorem i_vc_number {k : Nat} {u : SX} {v : SY} (I : i_Rel k u v) (hk : k + 5 ≤ 2560) (v1 : Int32) : wpX_number (fun r u' => wpY_number (fun r' v' => r' = r ∧ i_Rel (k + 5) u' v') v v1) u v1 := by
  obtain ⟨x_textLength, x_pairCount, x_placeCount, x_procedureCount, x_continuationCount, x_frameCount, x_state, x_ending, x_form, x_environment, x_frame, x_value, x_applied, x_argumentCount, x_countedCount, x_consCount, x_entryCount, x_outputCount, x_itemCount, x_text, x_firsts, x_rests, x_placeNames, x_placeValues, x_placeOuters, x_procedureParts, x_procedurePlaces, x_continuationFrames, x_frameTasks, x_frameForms, x_frameValues, x_framePlaces, x_frameNexts, x_arguments, x_outputs, x_itemKinds, x_itemNumbers, x_openLists⟩ := u
  obtain ⟨y_size, y_pairs, y_open, y_formCount, y_places, y_procedures, y_continuationCount, y_things, y_foundCount, y_argumentCount, y_value, y_form, y_wherein, y_next, y_working, y_ending, y_counts, y_made, y_entered, y_printCount, y_itemCount, y_text, y_firsts, y_rests, y_heads, y_lasts, y_globals, y_placeNames, y_placeValues, y_placeNexts, y_procedureForms, y_procedurePlaces, y_continuations, y_whats, y_withs, y_whereins, y_soFars, y_afters, y_found, y_foundNexts, y_arguments, y_prints, y_itemKinds, y_itemNumbers, y_pile⟩ := v
  obtain ⟨T, n, I⟩ := I
  obtain ⟨u', v', w', r, _, hI, hX, _, hZ⟩ := fi_all I
  unfold wpX_number
  refine hX _ ?_
  obtain ⟨x_textLength, x_pairCount, x_placeCount, x_procedureCount, x_continuationCount, x_frameCount, x_state, x_ending, x_form, x_environment, x_frame, x_value, x_applied, x_argumentCount, x_countedCount, x_consCount, x_entryCount, x_outputCount, x_itemCount, x_text, x_firsts, x_rests, x_placeNames, x_placeValues, x_placeOuters, x_procedureParts, x_procedurePlaces, x_continuationFrames, x_frameTasks, x_frameForms, x_frameValues, x_framePlaces, x_frameNexts, x_arguments, x_outputs, x_itemKinds, x_itemNumbers, x_openLists⟩ := u'
  unfold wpY_number
  obtain ⟨y_size, y_pairs, y_open, y_formCount, y_places, y_procedures, y_continuationCount, y_things, y_foundCount, y_argumentCount, y_value, y_form, y_wherein, y_next, y_working, y_ending, y_counts, y_made, y_entered, y_printCount, y_itemCount, y_text, y_firsts, y_rests, y_heads, y_lasts, y_globals, y_placeNames, y_placeValues, y_placeNexts, y_procedureForms, y_procedurePlaces, y_continuations, y_whats, y_withs, y_whereins, y_soFars, y_afters, y_found, y_foundNexts, y_arguments, y_prints, y_itemKinds, y_itemNumbers, y_pile⟩ := w'
  obtain ⟨h1, h2, h3⟩ := hI
  subst h2
  by_cases c0 : v1 < 0
  · exact br_t c0 (hZ _ (br_t c0 ⟨rfl, T, n, h1⟩))
  · refine br_f c0 ?_
    by_cases c1 : x_itemCount ≤ v1
    · exact br_t c1 (hZ _ (br_f c0 (br_t c1 ⟨rfl, T, n, h1⟩)))
    · obtain ⟨j, hj, rfl⟩ := nI_of c0
      rcases h3 with h3 | ⟨c, h3, h4, h5⟩
      · exact absurd (Int32.le_of_lt (Int32.lt_of_lt_of_le h3 (nI_pos' hj))) c1
      · subst h4
        have hjc : j < c := by
          by_cases z : j < c
          · exact z
          · exact absurd (nI_le (by omega) hj) c1
        have e : (nI j).toNatClampNeg = j := nI_clamp hj
        refine br_f c1 ⟨vp_in_nI (by omega) (by decide), hZ _ (br_f c0 (br_f c1 ⟨vp_in_nI (by omega) (by decide), ?_, T, n, h1⟩))⟩
        rw [e]
        exact (h5 j hjc).2.symm
theorem i_vc_output {k : Nat} {u : SX} {v : SY} (I : i_Rel k u v) (hk : k + 5 ≤ 2560) (v1 : Int32) : wpX_output (fun r u' => wpY_output (fun r' v' => r' = r ∧ i_Rel (k + 5) u' v') v v1) u v1 := by
  obtain ⟨x_textLength, x_pairCount, x_placeCount, x_procedureCount, x_continuationCount, x_frameCount, x_state, x_ending, x_form, x_environment, x_frame, x_value, x_applied, x_argumentCount, x_countedCount, x_consCount, x_entryCount, x_outputCount, x_itemCount, x_text, x_firsts, x_rests, x_placeNames, x_placeValues, x_placeOuters, x_procedureParts, x_procedurePlaces, x_continuationFrames, x_frameTasks, x_frameForms, x_frameValues, x_framePlaces, x_frameNexts, x_arguments, x_outputs, x_itemKinds, x_itemNumbers, x_openLists⟩ := u
  obtain ⟨y_size, y_pairs, y_open, y_formCount, y_places, y_procedures, y_continuationCount, y_things, y_foundCount, y_argumentCount, y_value, y_form, y_wherein, y_next, y_working, y_ending, y_counts, y_made, y_entered, y_printCount, y_itemCount, y_text, y_firsts, y_rests, y_heads, y_lasts, y_globals, y_placeNames, y_placeValues, y_placeNexts, y_procedureForms, y_procedurePlaces, y_continuations, y_whats, y_withs, y_whereins, y_soFars, y_afters, y_found, y_foundNexts, y_arguments, y_prints, y_itemKinds, y_itemNumbers, y_pile⟩ := v
  obtain ⟨T, n, I⟩ := I
  obtain ⟨u', v', w', r, hR, _, hX, hY, _⟩ := fi_all I
  unfold wpX_output
  refine hX _ ?_
  obtain ⟨x_textLength, x_pairCount, x_placeCount, x_procedureCount, x_continuationCount, x_frameCount, x_state, x_ending, x_form, x_environment, x_frame, x_value, x_applied, x_argumentCount, x_countedCount, x_consCount, x_entryCount, x_outputCount, x_itemCount, x_text, x_firsts, x_rests, x_placeNames, x_placeValues, x_placeOuters, x_procedureParts, x_procedurePlaces, x_continuationFrames, x_frameTasks, x_frameForms, x_frameValues, x_framePlaces, x_frameNexts, x_arguments, x_outputs, x_itemKinds, x_itemNumbers, x_openLists⟩ := u'
  unfold wpY_output
  obtain ⟨y_size, y_pairs, y_open, y_formCount, y_places, y_procedures, y_continuationCount, y_things, y_foundCount, y_argumentCount, y_value, y_form, y_wherein, y_next, y_working, y_ending, y_counts, y_made, y_entered, y_printCount, y_itemCount, y_text, y_firsts, y_rests, y_heads, y_lasts, y_globals, y_placeNames, y_placeValues, y_placeNexts, y_procedureForms, y_procedurePlaces, y_continuations, y_whats, y_withs, y_whereins, y_soFars, y_afters, y_found, y_foundNexts, y_arguments, y_prints, y_itemKinds, y_itemNumbers, y_pile⟩ := v'
  obtain ⟨h1, h2, h3, h4, h5, pc, h6, h7, h8, h9⟩ := hR
  subst h7 h8
  by_cases c0 : v1 < 0
  · exact br_t c0 (hY _ (br_t c0 ⟨rfl, T, n, h1⟩))
  · refine br_f c0 ?_
    by_cases c1 : nI pc ≤ v1
    · exact br_t c1 (hY _ (br_f c0 (br_t c1 ⟨rfl, T, n, h1⟩)))
    · obtain ⟨j, hj, rfl⟩ := nI_of c0
      have hjc : j < pc := by
        by_cases z : j < pc
        · exact z
        · exact absurd (nI_le (by omega) hj) c1
      have e : (nI j).toNatClampNeg = j := nI_clamp hj
      refine br_f c1 ⟨vp_in_nI (by omega) (by decide), hY _ (br_f c0 (br_f c1 ⟨vp_in_nI (by omega) (by decide), ?_, T, n, h1⟩))⟩
      rw [e]
      exact (h9 j hjc).symm
end
