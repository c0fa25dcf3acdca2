/-! X: counting the forms, reading them -/
section
variable {x_textLength : Int32} {x_pairCount : Int32} {x_placeCount : Int32} {x_procedureCount : Int32} {x_continuationCount : Int32} {x_frameCount : Int32} {x_state : Int32} {x_ending : Int32} {x_form : Int64} {x_environment : Int32} {x_frame : Int32} {x_value : Int64} {x_applied : Int64} {x_argumentCount : Int32} {x_countedCount : Int32} {x_consCount : Int32} {x_entryCount : Int32} {x_outputCount : Int32} {x_itemCount : Int32} {x_text : Nat → Int32} {x_firsts : Nat → Int64} {x_rests : Nat → Int64} {x_placeNames : Nat → Int32} {x_placeValues : Nat → Int64} {x_placeOuters : Nat → Int32} {x_procedureParts : Nat → Int64} {x_procedurePlaces : Nat → Int32} {x_continuationFrames : Nat → Int32} {x_frameTasks : Nat → Int32} {x_frameForms : Nat → Int64} {x_frameValues : Nat → Int64} {x_framePlaces : Nat → Int32} {x_frameNexts : Nat → Int32} {x_arguments : Nat → Int64} {x_outputs : Nat → Int32} {x_itemKinds : Nat → Int32} {x_itemNumbers : Nat → Int32} {x_openLists : Nat → Int64}
variable {T : Nat → Nat} {n i px t : Nat}
theorem cl_L {f : Nat → Int64} {i : Int32} {k : Nat} {a : Int64} (e : i.toNatClampNeg = k) : vp_updL f i.toNatClampNeg a = vp_updL f k a := by rw [e]
theorem cl_I {f : Nat → Int32} {i : Int32} {k : Nat} {a : Int32} (e : i.toNatClampNeg = k) : upd f i.toNatClampNeg a = upd f k a := by rw [e]
theorem cl_R {α : Type} {f : Nat → α} {i : Int32} {k : Nat} (e : i.toNatClampNeg = k) : f i.toNatClampNeg = f k := by rw [e]
theorem zv_cl {t k : Nat} (h : k < 2 ^ 31) : (zv_c t k).toInt32.toNatClampNeg = k := by rw [zv_lo, nI_clamp h]
theorem zv_in {t k N : Nat} (h : k < N) (hN : N < 2 ^ 31) : vp_in (zv_c t k).toInt32 N := by rw [zv_lo]; exact vp_in_nI h hN
theorem zk_xE : (12884901888 : Int64) = zv_c 3 0 := by decide
theorem zk_xN : (34359738368 : Int64) = zv_c 8 0 := by decide
theorem zk_xF : (17179869184 : Int64) = zv_c 4 0 := by decide
theorem zk_xT : (17179869185 : Int64) = zv_c 4 1 := by decide
theorem zk_30 : (4294967326 : Int64) = zv_c 1 30 := by decide
theorem zk_39 : (4294967335 : Int64) = zv_c 1 39 := by decide
theorem zk_40 : (4294967336 : Int64) = zv_c 1 40 := by decide
theorem zk_45 : (4294967341 : Int64) = zv_c 1 45 := by decide
theorem zk_m {t k : Nat} (ht : t < 16) (hk : k < 4294967296) {a b : Int32} (ha : a = nI t) (hb : b = nI k) : (a.toInt64 <<< ((32 : Int32).toInt64 &&& 63)) ||| (b.toInt64 &&& 4294967295) = zv_c t k := by
  subst ha
  exact zv_mk ht hk (nI_l (by omega)) hb
theorem xs_tagged {post : Int64 → Prop} {t k : Nat} {a b : Int32} (ha : a = nI t) (hb : b = nI k) (ht : t < 16) (hk : k < 4294967296) (h : post (zv_c t k)) : wpX_tagged post a b := by
  unfold wpX_tagged
  rw [zk_m ht hk ha hb]
  exact h
theorem xs_cf58 {post : Int32 → Prop} {J : Int32 → Int32 → Int32 → Int32 → Prop} {d w : Nat} (hd : d < 2 ^ 31) (ht : t < 100) (h : J (nI d) (nI (if d = 0 ∧ t ≠ 2 then w + 1 else w)) (if t = 2 then 1 else 0) (nI (i + 1))) : wX_countForms_58 post J (nI d) (nI w) (nI i) (nI t) x_textLength x_pairCount x_placeCount x_procedureCount x_continuationCount x_frameCount x_state x_ending x_form x_environment x_frame x_value x_applied x_argumentCount x_countedCount x_consCount x_entryCount x_outputCount x_itemCount x_text x_firsts x_rests x_placeNames x_placeValues x_placeOuters x_procedureParts x_procedurePlaces x_continuationFrames x_frameTasks x_frameForms x_frameValues x_framePlaces x_frameNexts x_arguments x_outputs x_itemKinds x_itemNumbers x_openLists := by
  unfold wX_countForms_58 wX_countForms_69
  by_cases c : t = 2
  · subst c
    rw [if_neg (fun z => z.2 rfl), if_pos rfl] at h
    refine br_t rfl ?_
    by_cases c0 : d = 0
    · subst c0
      exact br_t rfl (br_f (by decide) (nm_r (nI_1 i) h))
    · exact br_f (nI_ne0 (by omega) hd) (nm_r (nI_1 i) h)
  · rw [if_neg c] at h
    refine br_f (fun z => c ((nI_eq (a := t) (b := 2) (by omega) (by omega)).mp z)) ?_
    by_cases c0 : d = 0
    · subst c0
      rw [if_pos ⟨rfl, c⟩] at h
      exact br_t rfl (br_t rfl (nm_r (nI_1 w) (nm_r (nI_1 i) h)))
    · rw [if_neg (fun z => c0 z.1)] at h
      exact br_f (nI_ne0 (by omega) hd) (nm_r (nI_1 i) h)
def pz_mb (T : Nat → Nat) (i : Nat) : Int32 := if 0 < i ∧ T (i - 1) = 2 then 1 else 0
theorem pz_mb_s : pz_mb T (i + 1) = if T i = 2 then 1 else 0 := by
  unfold pz_mb
  rw [Nat.add_sub_cancel]
  by_cases c : T i = 2
  · rw [if_pos ⟨by omega, c⟩, if_pos c]
  · rw [if_neg (fun z => c z.2), if_neg c]
theorem pz_mb_t (h : pz_mk T i) : pz_mb T i = 1 := if_pos h
theorem pz_mb_f (h : ¬ pz_mk T i) : pz_mb T i = 0 := if_neg h
theorem pz_dd_b : pz_dd T i ≤ i := by
  induction i with
  | zero => exact Nat.le_refl _
  | succ i ih => have := pz_dd_le (T := T) (i := i); omega
theorem xs_cf {post : Int32 → Prop} (hn : n ≤ 70) (hT : ∀ i, i < n → zv_tk (T i) ∧ x_text i = nI (T i)) (h1 : pz_Rd T n → post (nI (pz_ww T n))) (h2 : ¬ pz_Rd T n → post (-1000000003)) :
    ∀ d i, i + d = n → (∀ j, j < i → pz_ok T j) → wX_countForms_9 post (nI n) x_pairCount x_placeCount x_procedureCount x_continuationCount x_frameCount x_state x_ending x_form x_environment x_frame x_value x_applied x_argumentCount x_countedCount x_consCount x_entryCount x_outputCount x_itemCount x_text x_firsts x_rests x_placeNames x_placeValues x_placeOuters x_procedureParts x_procedurePlaces x_continuationFrames x_frameTasks x_frameForms x_frameValues x_framePlaces x_frameNexts x_arguments x_outputs x_itemKinds x_itemNumbers x_openLists (d + 1) (nI (pz_dd T i)) (nI (pz_ww T i)) (pz_mb T i) (nI i) := by
  intro d
  induction d with
  | zero =>
    intro i hi hok
    have hin : i = n := by omega
    subst hin
    have hb := pz_dd_b (T := T) (i := i)
    refine br_t (nI_le (Nat.le_refl _) (by omega)) ?_
    by_cases c : pz_dd T i = 0
    · refine br_t (by rw [c]; rfl) ?_
      by_cases m : pz_mk T i
      · rw [pz_mb_t m]
        exact br_f (by decide) (h2 (fun z => z.2.2 m))
      · rw [pz_mb_f m]
        exact br_t rfl (h1 ⟨hok, c, m⟩)
    · exact br_f (nI_ne0 (by omega) (by omega)) (h2 (fun z => c z.2.1))
  | succ d ih =>
    intro i hi hok
    have hb := pz_dd_b (T := T) (i := i)
    obtain ⟨tk, te⟩ := hT i (by omega)
    have tl : T i < 100 := by unfold zv_tk at tk; omega
    have ec : (nI i).toNatClampNeg = i := nI_clamp (by omega)
    refine br_f (nI_ge (by omega) (by omega)) ⟨vp_in_nI (by omega) (by decide), nm_r ((cl_R ec).trans te) ?_⟩
    have next : pz_ok T i → wX_countForms_9 post (nI n) x_pairCount x_placeCount x_procedureCount x_continuationCount x_frameCount x_state x_ending x_form x_environment x_frame x_value x_applied x_argumentCount x_countedCount x_consCount x_entryCount x_outputCount x_itemCount x_text x_firsts x_rests x_placeNames x_placeValues x_placeOuters x_procedureParts x_procedurePlaces x_continuationFrames x_frameTasks x_frameForms x_frameValues x_framePlaces x_frameNexts x_arguments x_outputs x_itemKinds x_itemNumbers x_openLists (d + 1) (nI (pz_dd T (i + 1))) (nI (if pz_dd T (i + 1) = 0 ∧ T i ≠ 2 then pz_ww T i + 1 else pz_ww T i)) (if T i = 2 then 1 else 0) (nI (i + 1)) := by
      intro ok
      have := ih (i + 1) (by omega) (fun j hj => by
        by_cases z : j = i
        · rw [z]; exact ok
        · exact hok j (by omega))
      rw [pz_ww, pz_mb_s] at this
      exact this
    by_cases c1 : T i = 1
    · rw [c1]
      refine br_t rfl ?_
      by_cases m : pz_mk T i
      · rw [pz_mb_t m]
        exact br_f (by decide) (h2 (fun z => (z.1 i (by omega) c1).2 m))
      · rw [pz_mb_f m]
        refine br_t rfl ?_
        by_cases c0 : pz_dd T i = 0
        · exact br_t (by rw [c0]; rfl) (h2 (fun z => by have := (z.1 i (by omega) c1).1; omega))
        · obtain ⟨k, hk⟩ : ∃ k, pz_dd T i = k + 1 := ⟨pz_dd T i - 1, by omega⟩
          have hd := pz_dd_c c1
          rw [hk] at hd ⊢
          have nx := next (fun _ => ⟨by omega, m⟩)
          rw [hd, c1, Nat.add_sub_cancel] at nx
          exact br_f (nI_ne0 (by omega) (by omega)) (nm_r (pk_m1 k) (xs_cf58 (t := 1) (by omega) (by omega) nx))
    · refine br_f (fun z => c1 ((nI_eq (a := T i) (b := 1) (by omega) (by omega)).mp z)) ?_
      have nx := next (fun z => absurd z c1)
      by_cases c0 : T i = 0
      · rw [pz_dd_o c0, c0] at nx
        rw [c0]
        exact br_t rfl (nm_r (nI_1 _) (xs_cf58 (t := 0) (by omega) (by omega) nx))
      · rw [pz_dd_a c0 c1] at nx
        exact br_f (fun z => c0 ((nI_eq (a := T i) (b := 0) (by omega) (by omega)).mp z)) (xs_cf58 (by omega) tl nx)
theorem xs_countForms {post : Int32 → Prop} (hn : n ≤ 70) (hT : ∀ i, i < n → zv_tk (T i) ∧ x_text i = nI (T i)) (h1 : pz_Rd T n → post (nI (pz_ww T n))) (h2 : ¬ pz_Rd T n → post (-1000000003)) : wpX_countForms post (nI n, x_pairCount, x_placeCount, x_procedureCount, x_continuationCount, x_frameCount, x_state, x_ending, x_form, x_environment, x_frame, x_value, x_applied, x_argumentCount, x_countedCount, x_consCount, x_entryCount, x_outputCount, x_itemCount, x_text, x_firsts, x_rests, x_placeNames, x_placeValues, x_placeOuters, x_procedureParts, x_procedurePlaces, x_continuationFrames, x_frameTasks, x_frameForms, x_frameValues, x_framePlaces, x_frameNexts, x_arguments, x_outputs, x_itemKinds, x_itemNumbers, x_openLists) :=
  ⟨n + 1, xs_cf hn hT h1 h2 n 0 (by omega) (fun j hj => by omega)⟩
theorem xs_newPair {post : Int64 → SX → Prop} {a b : Int64} (h : px < 1400) (hp : post (zv_c 2 px) (x_textLength, nI (px + 1), x_placeCount, x_procedureCount, x_continuationCount, x_frameCount, x_state, x_ending, x_form, x_environment, x_frame, x_value, x_applied, x_argumentCount, x_countedCount, x_consCount, x_entryCount, x_outputCount, x_itemCount, x_text, vp_updL x_firsts px a, vp_updL x_rests px b, x_placeNames, x_placeValues, x_placeOuters, x_procedureParts, x_procedurePlaces, x_continuationFrames, x_frameTasks, x_frameForms, x_frameValues, x_framePlaces, x_frameNexts, x_arguments, x_outputs, x_itemKinds, x_itemNumbers, x_openLists)) : wpX_newPair post (x_textLength, nI px, x_placeCount, x_procedureCount, x_continuationCount, x_frameCount, x_state, x_ending, x_form, x_environment, x_frame, x_value, x_applied, x_argumentCount, x_countedCount, x_consCount, x_entryCount, x_outputCount, x_itemCount, x_text, x_firsts, x_rests, x_placeNames, x_placeValues, x_placeOuters, x_procedureParts, x_procedurePlaces, x_continuationFrames, x_frameTasks, x_frameForms, x_frameValues, x_framePlaces, x_frameNexts, x_arguments, x_outputs, x_itemKinds, x_itemNumbers, x_openLists) a b := by
  have hi : vp_in (nI px) 1400 := vp_in_nI h (by decide)
  have e : (nI px).toNatClampNeg = px := nI_clamp (by omega)
  exact br_t (nI_lt (b := 1400) h (by decide)) (nm_r (nI_1 px) ⟨hi, nm_r (cl_L e) ⟨hi, nm_r (cl_L e) (xs_tagged (t := 2) (k := px) rfl rfl (by decide) (by omega) hp)⟩⟩)
theorem xs_formOf {post : Int64 → Prop} (ht : zv_tk t) (h3 : 3 ≤ t) (h : post (zv_xA t)) : wpX_formOf post (nI t) := by
  unfold zv_tk at ht
  unfold zv_xA at h
  unfold wpX_formOf
  by_cases c3 : t = 3
  · subst c3
    exact br_t rfl (by rw [zk_xT]; exact h)
  · refine br_f (fun z => c3 ((nI_eq (a := t) (b := 3) (by omega) (by omega)).mp z)) ?_
    by_cases c4 : t = 4
    · subst c4
      exact br_t rfl (by rw [zk_xF]; exact h)
    · refine br_f (fun z => c4 ((nI_eq (a := t) (b := 4) (by omega) (by omega)).mp z)) ?_
      rw [if_neg (by omega)] at h
      by_cases c : t < 30
      · rw [if_pos c] at h
        exact br_f (nI_ge (b := 30) c (by decide)) (xs_tagged (t := 0) (k := t - 10) rfl (pk_sub (a := t) (b := 10) (by omega)) (by decide) (by omega) h)
      · rw [if_neg c] at h
        exact br_t (nI_le (a := 30) (by omega) (by omega)) (xs_tagged (t := 1) (k := t) rfl rfl (by decide) (by omega) h)
end
