/-! longs that hold a tag above 32 bits: how they are made, read, compared -/
theorem zv_nI (t k : Nat) : nI (t * 4294967296 + k) = nI k := by
  apply Int32.toBitVec_inj.mp
  show BitVec.ofNat 32 _ = BitVec.ofNat 32 _
  apply BitVec.eq_of_toNat_eq
  rw [BitVec.toNat_ofNat, BitVec.toNat_ofNat]
  omega
theorem zv_lo (t k : Nat) : (zv_c t k).toInt32 = nI k := by
  unfold zv_c
  rw [lN_i, zv_nI]
theorem zv_sx {k : Nat} (hk : k < 4294967296) : (nI k).toInt64 &&& 4294967295 = lN k := by
  apply wb_inj
  rw [Int64.toBitVec_and, wb_tb]
  apply BitVec.eq_of_toNat_eq
  rw [BitVec.toNat_and, Int32.toBitVec_toInt64, BitVec.toNat_signExtend, BitVec.toNat_ofNat]
  rw [show (4294967295 : Int64).toBitVec.toNat = 2 ^ 32 - 1 from by decide, Nat.and_two_pow_sub_one_eq_mod, BitVec.toNat_setWidth, pk_tn (by omega)]
  split <;> omega
theorem zv_mk {t k : Nat} (ht : t < 16) (hk : k < 4294967296) {a : Int64} {b : Int32} (ha : a = lN t) (hb : b = nI k) : (a <<< ((32 : Int32).toInt64 &&& 63)) ||| (b.toInt64 &&& 4294967295) = zv_c t k := by
  subst ha hb
  rw [zv_sx hk, show (32 : Int32) = nI 32 from rfl, wb_shl t (by decide), wb_or (by omega) (by omega)]
  unfold zv_c
  have h := Nat.shiftLeft_add_eq_or_of_lt (show k < 2 ^ 32 by omega) t
  rw [Nat.shiftLeft_eq] at h
  rw [← h]
theorem zv_sh {t k : Nat} (ht : t < 16) (hk : k < 4294967296) : zv_c t k >>> ((32 : Int32).toInt64 &&& 63) = lN t := by
  unfold zv_c
  apply Int64.toInt_inj.mp
  have h : ∀ (a s : Int64), (s.toBitVec.smod 64).toNat = 32 → (a >>> s).toInt = a.toInt >>> 32 := by
    intro a s hs
    show (a.toBitVec.sshiftRight (s.toBitVec.smod 64).toNat).toInt = _
    rw [hs, BitVec.toInt_sshiftRight]
    rfl
  rw [h _ _ (by decide), pk_lT (by omega), pk_lT (by omega), Int.shiftRight_eq_div_pow]
  omega
theorem zv_tg {t k : Nat} (ht : t < 16) (hk : k < 4294967296) : (zv_c t k >>> ((32 : Int32).toInt64 &&& 63)).toInt32 = nI t := by
  rw [zv_sh ht hk, lN_i]
theorem zv_eq {t k t' k' : Nat} (ht : t < 16) (hk : k < 4294967296) (ht' : t' < 16) (hk' : k' < 4294967296) : zv_c t k = zv_c t' k' ↔ t = t' ∧ k = k' := by
  unfold zv_c
  rw [pk_lEQ (by omega) (by omega)]
  omega
theorem zv_le {t k t' k' : Nat} (ht : t < 16) (hk : k < 4294967296) (ht' : t' < 16) (hk' : k' < 4294967296) : zv_c t k ≤ zv_c t' k' ↔ t < t' ∨ (t = t' ∧ k ≤ k') := by
  unfold zv_c
  rw [pk_lLE (by omega) (by omega)]
  omega
theorem zv_lt {t k t' k' : Nat} (ht : t < 16) (hk : k < 4294967296) (ht' : t' < 16) (hk' : k' < 4294967296) : zv_c t k < zv_c t' k' ↔ t < t' ∨ (t = t' ∧ k < k') := by
  unfold zv_c
  rw [pk_lLT (by omega) (by omega)]
  omega
theorem zv_ne {t k : Nat} (ht : t < 16) (hk : k < 4294967296) : zv_c t k ≠ -1 := by
  intro h
  have h1 : (zv_c t k).toInt = ((t * 4294967296 + k : Nat) : Int) := pk_lT (by omega)
  rw [h] at h1
  have h2 : (-1 : Int64).toInt = -1 := by decide
  rw [h2] at h1
  omega
