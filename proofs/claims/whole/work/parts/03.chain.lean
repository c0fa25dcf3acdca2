/-! values as a tag and a low part; lists as chains of rests; a chain that ends is no longer than there are pairs -/
def zv_c (t k : Nat) : Int64 := lN (t * 4294967296 + k)
def ch_N (R : Nat → Int64) (pt : Nat → Int64) (E : Int64) (B : Nat) : Nat → Int64 → Prop
  | 0, v => v = E
  | k + 1, v => ∃ c, c < B ∧ v = pt c ∧ ch_N R pt E B k (R c)
theorem ch_ph : ∀ (B k : Nat) (f : Nat → Nat), (∀ i, i < k → f i < B) → (∀ i j, i < k → j < k → f i = f j → i = j) → k ≤ B := by
  intro B
  induction B with
  | zero =>
    intro k f h _
    by_cases z : k = 0
    · omega
    · have := h 0 (by omega); omega
  | succ B ih =>
    intro k f h hi
    by_cases hx : ∃ i, i < k ∧ f i = B
    · obtain ⟨i0, a, c⟩ := hx
      have := ih (k - 1) (fun i => if i < i0 then f i else f (i + 1)) (fun i hl => by
        split
        · have h1 := h i (by omega)
          have h2 : f i ≠ B := fun z => by
            have := hi i i0 (by omega) a (by omega); omega
          omega
        · have h1 := h (i + 1) (by omega)
          have h2 : f (i + 1) ≠ B := fun z => by
            have := hi (i + 1) i0 (by omega) a (by omega); omega
          omega) (fun i j hl hl' he => by
        split at he
        · split at he
          · exact hi i j (by omega) (by omega) he
          · have := hi i (j + 1) (by omega) (by omega) he; omega
        · split at he
          · have := hi (i + 1) j (by omega) (by omega) he; omega
          · have := hi (i + 1) (j + 1) (by omega) (by omega) he; omega)
      omega
    · have := ih k f (fun i hl => by
        have h1 := h i hl
        have h2 : f i ≠ B := fun z => hx ⟨i, hl, z⟩
        omega) hi
      omega
section
variable {R : Nat → Int64} {pt : Nat → Int64} {E : Int64} {B : Nat}
theorem ch_uniq (hE : ∀ c, c < B → pt c ≠ E) (hp : ∀ c d, c < B → d < B → pt c = pt d → c = d) :
    ∀ k m v, ch_N R pt E B k v → ch_N R pt E B m v → k = m := by
  intro k
  induction k with
  | zero =>
    intro m v h1 h2
    cases m with
    | zero => rfl
    | succ m =>
      obtain ⟨c, hB, hc, _⟩ := h2
      exact absurd (hc.symm.trans h1) (hE c hB)
  | succ k ih =>
    intro m v h1 h2
    cases m with
    | zero =>
      obtain ⟨c, hB, hc, _⟩ := h1
      exact absurd (hc.symm.trans h2) (hE c hB)
    | succ m =>
      obtain ⟨c, hB, hc, g1⟩ := h1
      obtain ⟨d, hD, hd, g2⟩ := h2
      have e := hp c d hB hD (hc.symm.trans hd)
      subst e
      rw [ih m _ g1 g2]
/-- the cells of a chain, by what is left of it -/
theorem ch_cells : ∀ k v, ch_N R pt E B k v → ∃ f : Nat → Nat, ∀ i, i < k → f i < B ∧ ch_N R pt E B (i + 1) (pt (f i)) := by
  intro k
  induction k with
  | zero => intro v _; exact ⟨fun _ => 0, fun i hi => by omega⟩
  | succ k ih =>
    intro v h
    obtain ⟨c, hB, hc, g⟩ := id h
    obtain ⟨f, hf⟩ := ih _ g
    refine ⟨fun i => if i = k then c else f i, fun i hi => ?_⟩
    dsimp only
    split
    · rename_i z
      subst z
      rw [← hc]
      exact ⟨hB, h⟩
    · exact hf i (by omega)
theorem ch_len (hE : ∀ c, c < B → pt c ≠ E) (hp : ∀ c d, c < B → d < B → pt c = pt d → c = d) {k : Nat} {v : Int64} (h : ch_N R pt E B k v) : k ≤ B := by
  obtain ⟨f, hf⟩ := ch_cells k v h
  refine ch_ph B k f (fun i hi => (hf i hi).1) (fun i j hi hj he => ?_)
  have h1 := (hf i hi).2
  have h2 := (hf j hj).2
  rw [he] at h1
  have := ch_uniq hE hp _ _ _ h1 h2
  omega
theorem ch_mono {B' : Nat} (h : B ≤ B') : ∀ k v, ch_N R pt E B k v → ch_N R pt E B' k v := by
  intro k
  induction k with
  | zero => intro v h; exact h
  | succ k ih =>
    intro v h1
    obtain ⟨c, hB, hc, g⟩ := h1
    exact ⟨c, by omega, hc, ih _ g⟩
end
