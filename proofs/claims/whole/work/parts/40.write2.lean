/-! the value is written: both sides -/
def wr_F (cx : Nat) (kx nx : Nat → Int32) (cy : Nat) (ky ny : Nat → Int32) : Prop := (cx ≤ 120 ∧ cy = cx ∧ ∀ j, j < cx → kx j = ky j ∧ nx j = ny j) ∨ (120 < cx ∧ cx < 1000 ∧ 120 < cy ∧ cy < 1000)
def wr_E (c : Nat) (kx nx ky ny : Nat → Int32) : Prop := ∀ j, j < c → j < 120 → kx j = ky j ∧ nx j = ny j
theorem wr_put {c : Nat} {kx nx ky ny : Nat → Int32} {a b : Int32} (h : wr_E c kx nx ky ny) : wr_E (c + 1) (wr_u kx c a) (wr_u nx c b) (upd ky c a) (upd ny c b) := by
  intro j h1 h2
  unfold wr_u
  by_cases z : c < 120
  · rw [if_pos z, if_pos z]
    by_cases y : j = c
    · rw [y, pk_us, pk_us, pk_us, pk_us]; exact ⟨rfl, rfl⟩
    · rw [pk_un y, pk_un y, pk_un y, pk_un y]; exact h j (by omega) h2
  · rw [if_neg z, if_neg z, pk_un (by omega), pk_un (by omega)]
    exact h j (by omega) h2
section
variable {x_textLength : Int32} {x_pairCount : Int32} {x_placeCount : Int32} {x_procedureCount : Int32} {x_continuationCount : Int32} {x_frameCount : Int32} {x_state : Int32} {x_ending : Int32} {x_form : Int64} {x_environment : Int32} {x_frame : Int32} {x_value : Int64} {x_applied : Int64} {x_argumentCount : Int32} {x_countedCount : Int32} {x_consCount : Int32} {x_entryCount : Int32} {x_outputCount : Int32} {x_itemCount : Int32} {x_text : Nat → Int32} {x_firsts : Nat → Int64} {x_rests : Nat → Int64} {x_placeNames : Nat → Int32} {x_placeValues : Nat → Int64} {x_placeOuters : Nat → Int32} {x_procedureParts : Nat → Int64} {x_procedurePlaces : Nat → Int32} {x_continuationFrames : Nat → Int32} {x_frameTasks : Nat → Int32} {x_frameForms : Nat → Int64} {x_frameValues : Nat → Int64} {x_framePlaces : Nat → Int32} {x_frameNexts : Nat → Int32} {x_arguments : Nat → Int64} {x_outputs : Nat → Int32} {x_itemKinds : Nat → Int32} {x_itemNumbers : Nat → Int32} {x_openLists : Nat → Int64}
variable {y_size : Int32} {y_pairs : Int32} {y_open : Int32} {y_formCount : Int32} {y_places : Int32} {y_procedures : Int32} {y_continuationCount : Int32} {y_things : Int32} {y_foundCount : Int32} {y_argumentCount : Int32} {y_value : Int64} {y_form : Int64} {y_wherein : Int32} {y_next : Int32} {y_working : Int32} {y_ending : Int32} {y_counts : Int32} {y_made : Int32} {y_entered : Int32} {y_printCount : Int32} {y_itemCount : Int32} {y_text : Nat → Int32} {y_firsts : Nat → Int64} {y_rests : Nat → Int64} {y_heads : Nat → Int32} {y_lasts : Nat → Int32} {y_globals : Nat → Int64} {y_placeNames : Nat → Int32} {y_placeValues : Nat → Int64} {y_placeNexts : Nat → Int32} {y_procedureForms : Nat → Int64} {y_procedurePlaces : Nat → Int32} {y_continuations : Nat → Int32} {y_whats : Nat → Int32} {y_withs : Nat → Int64} {y_whereins : Nat → Int32} {y_soFars : Nat → Int32} {y_afters : Nat → Int32} {y_found : Nat → Int64} {y_foundNexts : Nat → Int32} {y_arguments : Nat → Int64} {y_prints : Nat → Int32} {y_itemKinds : Nat → Int32} {y_itemNumbers : Nat → Int32} {y_pile : Nat → Int64}
variable {T : Nat → Nat} {n px py np nc : Nat} {M : Nat → Nat → Prop}
theorem xw_over {post : SX → Prop} {c i : Nat} {x : Int64} {w d : Int32} (hc : 120 < c) (hc2 : c < 1000) (hi : i < 300) (hp : wX_write_176 post x_textLength x_pairCount x_placeCount x_procedureCount x_continuationCount x_frameCount x_state x_ending x_form x_environment x_frame x_value x_applied x_argumentCount x_countedCount x_consCount x_entryCount x_outputCount (nI c) x_text x_firsts x_rests x_placeNames x_placeValues x_placeOuters x_procedureParts x_procedurePlaces x_continuationFrames x_frameTasks x_frameForms x_frameValues x_framePlaces x_frameNexts x_arguments x_outputs x_itemKinds x_itemNumbers x_openLists) : wX_write_18 post 1 x w d (nI i) x_textLength x_pairCount x_placeCount x_procedureCount x_continuationCount x_frameCount x_state x_ending x_form x_environment x_frame x_value x_applied x_argumentCount x_countedCount x_consCount x_entryCount x_outputCount (nI c) x_text x_firsts x_rests x_placeNames x_placeValues x_placeOuters x_procedureParts x_procedurePlaces x_continuationFrames x_frameTasks x_frameForms x_frameValues x_framePlaces x_frameNexts x_arguments x_outputs x_itemKinds x_itemNumbers x_openLists :=
  br_f (nI_ge (b := 300) hi (by decide)) (br_t (nI_lt (a := 120) hc (by omega)) hp)
theorem yw_over {post : SY → Prop} {c h : Nat} (hc : 120 < c) (hc2 : c < 1000) (hh : h < 1000) (hp : post (y_size, y_pairs, y_open, y_formCount, y_places, y_procedures, y_continuationCount, y_things, y_foundCount, y_argumentCount, y_value, y_form, y_wherein, y_next, y_working, y_ending, y_counts, y_made, y_entered, y_printCount, nI c, y_text, y_firsts, y_rests, y_heads, y_lasts, y_globals, y_placeNames, y_placeValues, y_placeNexts, y_procedureForms, y_procedurePlaces, y_continuations, y_whats, y_withs, y_whereins, y_soFars, y_afters, y_found, y_foundNexts, y_arguments, y_prints, y_itemKinds, y_itemNumbers, y_pile)) : wY_write_17 post 1 (nI h) y_size y_pairs y_open y_formCount y_places y_procedures y_continuationCount y_things y_foundCount y_argumentCount y_value y_form y_wherein y_next y_working y_ending y_counts y_made y_entered y_printCount (nI c) y_text y_firsts y_rests y_heads y_lasts y_globals y_placeNames y_placeValues y_placeNexts y_procedureForms y_procedurePlaces y_continuations y_whats y_withs y_whereins y_soFars y_afters y_found y_foundNexts y_arguments y_prints y_itemKinds y_itemNumbers y_pile :=
  pk_le h 0 (fun _ => hp) (fun _ => br_t (nI_le (a := 121) (by omega) (by omega)) hp)
theorem wr_main (hp : hp_OK T n M np nc py px y_firsts y_rests x_firsts x_rests) (hpx : px ≤ 1400) (hpy : py ≤ 900) :
    ∀ m c d w i (nxt : Int64) (kx nx : Nat → Int32) (ol : Nat → Int64) (ky ny : Nat → Int32) (pl : Nat → Int64), 2 * (121 - c) + (1 - w) ≤ m → w ≤ 1 → c ≤ 130 → d ≤ c → d ≤ 125 → i ≤ 2 * c + w → wr_E c kx nx ky ny →
      (∀ j, j < d → ∃ p q, M p q ∧ pl j = zv_c 10 p ∧ zv_V M np nc (y_rests p) (ol j)) → (w = 1 → zv_V M np nc (pl d) nxt) →
      ∃ cx kx' nx' ol' cy ky' ny' pl', wr_F cx kx' nx' cy ky' ny' ∧
        (∀ post : SX → Prop, wX_write_176 post x_textLength x_pairCount x_placeCount x_procedureCount x_continuationCount x_frameCount x_state x_ending x_form x_environment x_frame x_value x_applied x_argumentCount x_countedCount x_consCount x_entryCount x_outputCount (nI cx) x_text x_firsts x_rests x_placeNames x_placeValues x_placeOuters x_procedureParts x_procedurePlaces x_continuationFrames x_frameTasks x_frameForms x_frameValues x_framePlaces x_frameNexts x_arguments x_outputs (kx') (nx') (ol') → ∃ f, wX_write_18 post f nxt (nI w) (nI d) (nI i) x_textLength x_pairCount x_placeCount x_procedureCount x_continuationCount x_frameCount x_state x_ending x_form x_environment x_frame x_value x_applied x_argumentCount x_countedCount x_consCount x_entryCount x_outputCount (nI c) x_text x_firsts x_rests x_placeNames x_placeValues x_placeOuters x_procedureParts x_procedurePlaces x_continuationFrames x_frameTasks x_frameForms x_frameValues x_framePlaces x_frameNexts x_arguments x_outputs kx nx ol) ∧
        (∀ post : SY → Prop, post (y_size, y_pairs, y_open, y_formCount, y_places, y_procedures, y_continuationCount, y_things, y_foundCount, y_argumentCount, y_value, y_form, y_wherein, y_next, y_working, y_ending, y_counts, y_made, y_entered, y_printCount, nI cy, y_text, y_firsts, y_rests, y_heads, y_lasts, y_globals, y_placeNames, y_placeValues, y_placeNexts, y_procedureForms, y_procedurePlaces, y_continuations, y_whats, y_withs, y_whereins, y_soFars, y_afters, y_found, y_foundNexts, y_arguments, y_prints, ky', ny', pl') → ∃ f, wY_write_17 post f (nI (d + w)) y_size y_pairs y_open y_formCount y_places y_procedures y_continuationCount y_things y_foundCount y_argumentCount y_value y_form y_wherein y_next y_working y_ending y_counts y_made y_entered y_printCount (nI c) y_text y_firsts y_rests y_heads y_lasts y_globals y_placeNames y_placeValues y_placeNexts y_procedureForms y_procedurePlaces y_continuations y_whats y_withs y_whereins y_soFars y_afters y_found y_foundNexts y_arguments y_prints ky ny pl) := by
  intro m
  induction m with
  | zero =>
    intro c d w i nxt kx nx ol ky ny pl hm hw hc hd hd2 hi hE hS hV
    exact ⟨c, kx, nx, ol, c, ky, ny, pl, Or.inr ⟨by omega, by omega, by omega, by omega⟩, fun post h => ⟨1, xw_over (by omega) (by omega) (by omega) h⟩, fun post h => ⟨1, yw_over (by omega) (by omega) (by omega) h⟩⟩
  | succ m ih =>
    intro c d w i nxt kx nx ol ky ny pl hm hw hc hd hd2 hi hE hS hV
    by_cases hov : 120 < c
    · exact ⟨c, kx, nx, ol, c, ky, ny, pl, Or.inr ⟨by omega, by omega, by omega, by omega⟩, fun post h => ⟨1, xw_over (by omega) (by omega) (by omega) h⟩, fun post h => ⟨1, yw_over (by omega) (by omega) (by omega) h⟩⟩
    have pre : ∀ (post : SX → Prop) (f : Nat) (z : Int32), (z = 0 → ¬ nI d ≤ 0) → wX_write_44 post (wX_write_18 post f) nxt z (nI d) (nI i) x_textLength x_pairCount x_placeCount x_procedureCount x_continuationCount x_frameCount x_state x_ending x_form x_environment x_frame x_value x_applied x_argumentCount x_countedCount x_consCount x_entryCount x_outputCount (nI c) x_text x_firsts x_rests x_placeNames x_placeValues x_placeOuters x_procedureParts x_procedurePlaces x_continuationFrames x_frameTasks x_frameForms x_frameValues x_framePlaces x_frameNexts x_arguments x_outputs kx nx ol → wX_write_18 post (f + 1) nxt z (nI d) (nI i) x_textLength x_pairCount x_placeCount x_procedureCount x_continuationCount x_frameCount x_state x_ending x_form x_environment x_frame x_value x_applied x_argumentCount x_countedCount x_consCount x_entryCount x_outputCount (nI c) x_text x_firsts x_rests x_placeNames x_placeValues x_placeOuters x_procedureParts x_procedurePlaces x_continuationFrames x_frameTasks x_frameForms x_frameValues x_framePlaces x_frameNexts x_arguments x_outputs kx nx ol :=
      fun post f z hz h => br_f (nI_ge (b := 300) (by omega) (by decide)) (br_f (nI_nlt (a := 120) (by omega) (by decide)) (br_c (fun y => br_f (hz y) h) (fun _ => h)))
    by_cases hw1 : w = 1
    · subst hw1
      have hV := hV rfl
      rcases zv_Vpair hV with ⟨p, q, hM, p1, q1, ey, rfl⟩ | ⟨t, k, s, l, t1, s1, t2, s2, a1, l1, ey, ex⟩
      · -- a pair
        obtain ⟨g1, g2⟩ := hp.1 _ _ hM
        obtain ⟨w1, w2⟩ := hp.2.2.2.1 _ _ hM
        have hin : vp_in (zv_c 2 q).toInt32 1400 := zv_in (by omega) (by decide)
        have hcl : (zv_c 2 q).toInt32.toNatClampNeg = q := zv_cl (by omega)
        have ed : (nI d).toNatClampNeg = d := nI_clamp (by omega)
        obtain ⟨cx, kx', nx', ol', cy, ky', ny', pl', h1, h2, h3⟩ := ih (c + 1) (d + 1) 1 (i + 1) (x_firsts q) (wr_u kx c 2) (wr_u nx c 0) (vp_updL ol d (x_rests q)) (upd ky c 2) (upd ny c 0) (vp_updL (vp_updL pl d (zv_c 10 p)) (d + 1) (y_firsts p)) (by omega) (by omega) (by omega) (by omega) (by omega) (by omega) (wr_put hE)
          (fun j hj => by
            by_cases z : j = d
            · subst z
              exact ⟨p, q, hM, by rw [pk_uLn (by omega), pk_uLs], by rw [pk_uLs]; exact w2⟩
            · obtain ⟨p', q', r1, r2, r3⟩ := hS j (by omega)
              exact ⟨p', q', r1, by rw [pk_uLn (by omega), pk_uLn z]; exact r2, by rw [pk_uLn z]; exact r3⟩)
          (fun _ => by rw [pk_uLs]; exact w1)
        refine ⟨cx, kx', nx', ol', cy, ky', ny', pl', h1, fun post h => ?_, fun post h => ?_⟩
        · obtain ⟨f, hf⟩ := h2 post h
          refine ⟨f + 1, pre post f 1 (fun z => absurd z (by decide)) (br_f (by decide) (br_t ((zk_s2 (by decide) q1).mpr rfl) (xs_putItem (by omega) ⟨hin, vp_in_nI (by omega) (by decide), ?_⟩)))⟩
          rw [hcl]
          exact nm_r (cl_L ed) (nm_r (nI_1 d) ⟨hin, nm_e (nm_r (nI_1 i) hf)⟩)
        · obtain ⟨f, hf⟩ := h3 post h
          exact ⟨f + 1, yw_pair (by omega) (by omega) (by omega) ey hf⟩
      · have hV' := hV
        obtain ⟨t', k', s', l', v1, v2, v3, v4, vK⟩ := hV'
        have vb := zv_K_b vK
        have vp := zv_K_p vK
        have e1 := (zv_eq (by omega) a1 (by omega) v1).mp (ey.symm.trans v3)
        have e2 := (zv_eq (by omega) l1 (by omega) v2).mp (ex.symm.trans v4)
        obtain ⟨rfl, rfl⟩ := e1
        obtain ⟨rfl, rfl⟩ := e2
        subst ex
        have hnp : ¬ zv_c s l >>> ((32 : Int32).toInt64 &&& 63) = 2 := fun z => s2 ((zk_s2 s1 l1).mp z)
        by_cases ht2 : t = 2
        · -- the empty list
          obtain ⟨rfl, rfl⟩ := vp.2.2.2.2.1 ht2
          have hs3 := vp.2.2.1.mp ht2
          subst ht2 hs3
          have hX : ∀ (post : SX → Prop) (f : Nat), wX_write_18 post f (zv_c 3 0) 0 (nI d) (nI (i + 1)) x_textLength x_pairCount x_placeCount x_procedureCount x_continuationCount x_frameCount x_state x_ending x_form x_environment x_frame x_value x_applied x_argumentCount x_countedCount x_consCount x_entryCount x_outputCount (nI (c + 1 + 1)) x_text x_firsts x_rests x_placeNames x_placeValues x_placeOuters x_procedureParts x_procedurePlaces x_continuationFrames x_frameTasks x_frameForms x_frameValues x_framePlaces x_frameNexts x_arguments x_outputs (wr_u (wr_u kx c 2) (c + 1) 3) (wr_u (wr_u nx c 0) (c + 1) 0) ol → wX_write_18 post (f + 1) (zv_c 3 0) 1 (nI d) (nI i) x_textLength x_pairCount x_placeCount x_procedureCount x_continuationCount x_frameCount x_state x_ending x_form x_environment x_frame x_value x_applied x_argumentCount x_countedCount x_consCount x_entryCount x_outputCount (nI c) x_text x_firsts x_rests x_placeNames x_placeValues x_placeOuters x_procedureParts x_procedurePlaces x_continuationFrames x_frameTasks x_frameForms x_frameValues x_framePlaces x_frameNexts x_arguments x_outputs kx nx ol := by
            intro post f hf
            refine pre post f 1 (fun z => absurd z (by decide)) (br_f (by decide) (br_f hnp (br_f (by decide) ?_)))
            unfold wpX_putSingle
            exact xs_tagOf (by decide) (by decide) (br_f (by decide) (br_f (by decide) (br_f (by decide) (br_f (by decide) (br_f (by decide) (br_t rfl (xs_putItem (by omega) (xs_putItem (by omega) (nm_r (nI_1 i) hf)))))))))
          by_cases hc2 : c < 120
          · obtain ⟨cx, kx', nx', ol', cy, ky', ny', pl', h1, h2, h3⟩ := ih (c + 1 + 1) d 0 (i + 1) (zv_c 3 0) _ _ ol _ _ (vp_updL (vp_updL pl d (zv_c 11 0)) (d + 1) 0) (by omega) (by omega) (by omega) (by omega) (by omega) (by omega) (wr_put (a := 3) (b := 0) (wr_put (a := 2) (b := 0) hE))
              (fun j hj => by
                obtain ⟨p', q', r1, r2, r3⟩ := hS j hj
                exact ⟨p', q', r1, by rw [pk_uLn (by omega), pk_uLn (by omega)]; exact r2, r3⟩) (fun z => by omega)
            refine ⟨cx, kx', nx', ol', cy, ky', ny', pl', h1, fun post h => ?_, fun post h => ?_⟩
            · obtain ⟨f, hf⟩ := h2 post h
              exact ⟨f + 1, hX post f hf⟩
            · obtain ⟨f, hf⟩ := h3 post h
              exact ⟨f + 1 + 1, yw_empty (by omega) (by omega) ey (yw_close (by omega) (by omega) (by rw [pk_uLn (by omega), pk_uLs]) hf)⟩
          · exact ⟨c + 1 + 1, _, _, ol, c + 1, _, _, _, Or.inr ⟨by omega, by omega, by omega, by omega⟩, fun post h => ⟨1 + 1, hX post 1 (xw_over (by omega) (by omega) (by omega) h)⟩, fun post h => ⟨1 + 1, yw_empty (by omega) (by omega) ey (yw_over (by omega) (by omega) (by omega) h)⟩⟩
        · -- a single value
          obtain ⟨cx, kx', nx', ol', cy, ky', ny', pl', h1, h2, h3⟩ := ih (c + 1) d 0 (i + 1) (zv_c s l) _ _ ol _ _ pl (by omega) (by omega) (by omega) (by omega) (by omega) (by omega) (wr_put (a := wr_k t) (b := wr_n t k) hE) hS (fun z => by omega)
          refine ⟨cx, kx', nx', ol', cy, ky', ny', pl', h1, fun post h => ?_, fun post h => ?_⟩
          · obtain ⟨f, hf⟩ := h2 post h
            exact ⟨f + 1, pre post f 1 (fun z => absurd z (by decide)) (br_f (by decide) (br_f hnp (br_f (by decide) (xs_single vK ht2 t2 l1 (by omega) (nm_r (nI_1 i) hf)))))⟩
          · obtain ⟨f, hf⟩ := h3 post h
            exact ⟨f + 1, yw_single t1 ht2 t2 a1 (by omega) (by omega) ey hf⟩
    · have hw0 : w = 0 := by omega
      subst hw0
      by_cases hd0 : d = 0
      · subst hd0
        refine ⟨c, kx, nx, ol, c, ky, ny, pl, Or.inl ⟨by omega, rfl, fun j hj => hE j hj (by omega)⟩, fun post h => ⟨1, ?_⟩, fun post h => ⟨1, br_t (by decide) h⟩⟩
        exact br_f (nI_ge (b := 300) (by omega) (by decide)) (br_f (nI_nlt (a := 120) (by omega) (by decide)) (br_t rfl (br_t (by decide) h)))
      · obtain ⟨e, rfl⟩ : ∃ e, d = e + 1 := ⟨d - 1, by omega⟩
        obtain ⟨p, q, hM, hpi, hV⟩ := hS e (by omega)
        obtain ⟨g1, g2⟩ := hp.1 _ _ hM
        have ee : (nI (e + 1) - 1).toNatClampNeg = e := by rw [nI_pred]; exact nI_clamp (by omega)
        have hie : vp_in (nI (e + 1) - 1) 128 := by rw [nI_pred]; exact vp_in_nI (by omega) (by decide)
        have hz : (0 : Int32) = 0 → ¬ nI (e + 1) ≤ 0 := fun _ => nI_nle (by omega) (by omega)
        rcases zv_Vpair hV with ⟨p', q', hM', p1, q1, ey, ex⟩ | ⟨t, k, s, l, t1, s1, t2, s2, a1, l1, ey, ex⟩
        · -- the rest is a pair
          obtain ⟨g1', g2'⟩ := hp.1 _ _ hM'
          obtain ⟨w1, w2⟩ := hp.2.2.2.1 _ _ hM'
          have hin : vp_in (zv_c 2 q').toInt32 1400 := zv_in (by omega) (by decide)
          have hcl : (zv_c 2 q').toInt32.toNatClampNeg = q' := zv_cl (by omega)
          obtain ⟨cx, kx', nx', ol', cy, ky', ny', pl', h1, h2, h3⟩ := ih c (e + 1) 1 (i + 1) (x_firsts q') kx nx (vp_updL ol e (x_rests q')) ky ny (vp_updL (vp_updL pl e (zv_c 10 p')) (e + 1) (y_firsts p')) (by omega) (by omega) (by omega) (by omega) (by omega) (by omega) hE
            (fun j hj => by
              by_cases z : j = e
              · subst z
                exact ⟨p', q', hM', by rw [pk_uLn (by omega), pk_uLs], by rw [pk_uLs]; exact w2⟩
              · obtain ⟨p2, q2, r1, r2, r3⟩ := hS j (by omega)
                exact ⟨p2, q2, r1, by rw [pk_uLn (by omega), pk_uLn z]; exact r2, by rw [pk_uLn z]; exact r3⟩)
            (fun _ => by rw [pk_uLs]; exact w1)
          refine ⟨cx, kx', nx', ol', cy, ky', ny', pl', h1, fun post h => ?_, fun post h => ?_⟩
          · obtain ⟨f, hf⟩ := h2 post h
            refine ⟨f + 1, pre post f 0 hz (br_t rfl (br_t rfl ⟨hie, nm_r ((cl_R ee).trans ex) (br_t ((zk_s2 (by decide) q1).mpr rfl) ⟨hin, nm_r (cl_R hcl) ⟨hin, hie, ?_⟩⟩)⟩))⟩
            rw [hcl]
            exact nm_r (cl_L ee) (nm_r (nI_1 i) hf)
          · obtain ⟨f, hf⟩ := h3 post h
            exact ⟨f + 1, yw_rest (by omega) (by omega) (by omega) hpi (fun Q hQ => by rw [ey]; exact yr_pair (by omega) (by omega) hQ) hf⟩
        · have hV' := hV
          obtain ⟨t', k', s', l', v1, v2, v3, v4, vK⟩ := hV'
          have vb := zv_K_b vK
          have vp := zv_K_p vK
          have e1 := (zv_eq (by omega) a1 (by omega) v1).mp (ey.symm.trans v3)
          have e2 := (zv_eq (by omega) l1 (by omega) v2).mp (ex.symm.trans v4)
          obtain ⟨rfl, rfl⟩ := e1
          obtain ⟨rfl, rfl⟩ := e2
          have hnp : ¬ zv_c s l >>> ((32 : Int32).toInt64 &&& 63) = 2 := fun z => s2 ((zk_s2 s1 l1).mp z)
          have ei : nI (e + 1) + (-1) = nI e := pk_m1 e
          have hX : ∀ (post : SX → Prop) (f : Nat), wpX_putEnd (fun u => match u with | (x_textLength, x_pairCount, x_placeCount, x_procedureCount, x_continuationCount, x_frameCount, x_state, x_ending, x_form, x_environment, x_frame, x_value, x_applied, x_argumentCount, x_countedCount, x_consCount, x_entryCount, x_outputCount, x_itemCount, x_text, x_firsts, x_rests, x_placeNames, x_placeValues, x_placeOuters, x_procedureParts, x_procedurePlaces, x_continuationFrames, x_frameTasks, x_frameForms, x_frameValues, x_framePlaces, x_frameNexts, x_arguments, x_outputs, x_itemKinds, x_itemNumbers, x_openLists) => ∀ a : Int32, a = nI (e + 1) + (-1) → ∀ b : Int32, b = nI i + 1 → wX_write_18 post f nxt 0 a b x_textLength x_pairCount x_placeCount x_procedureCount x_continuationCount x_frameCount x_state x_ending x_form x_environment x_frame x_value x_applied x_argumentCount x_countedCount x_consCount x_entryCount x_outputCount x_itemCount x_text x_firsts x_rests x_placeNames x_placeValues x_placeOuters x_procedureParts x_procedurePlaces x_continuationFrames x_frameTasks x_frameForms x_frameValues x_framePlaces x_frameNexts x_arguments x_outputs x_itemKinds x_itemNumbers x_openLists) (x_textLength, x_pairCount, x_placeCount, x_procedureCount, x_continuationCount, x_frameCount, x_state, x_ending, x_form, x_environment, x_frame, x_value, x_applied, x_argumentCount, x_countedCount, x_consCount, x_entryCount, x_outputCount, nI c, x_text, x_firsts, x_rests, x_placeNames, x_placeValues, x_placeOuters, x_procedureParts, x_procedurePlaces, x_continuationFrames, x_frameTasks, x_frameForms, x_frameValues, x_framePlaces, x_frameNexts, x_arguments, x_outputs, kx, nx, ol) (zv_c s l) → wX_write_18 post (f + 1) nxt 0 (nI (e + 1)) (nI i) x_textLength x_pairCount x_placeCount x_procedureCount x_continuationCount x_frameCount x_state x_ending x_form x_environment x_frame x_value x_applied x_argumentCount x_countedCount x_consCount x_entryCount x_outputCount (nI c) x_text x_firsts x_rests x_placeNames x_placeValues x_placeOuters x_procedureParts x_procedurePlaces x_continuationFrames x_frameTasks x_frameForms x_frameValues x_framePlaces x_frameNexts x_arguments x_outputs kx nx ol := fun post f hf =>
            pre post f 0 hz (br_t rfl (br_t rfl ⟨hie, nm_r ((cl_R ee).trans ex) (br_f hnp hf)⟩))
          by_cases ht2 : t = 2
          · obtain ⟨rfl, rfl⟩ := vp.2.2.2.2.1 ht2
            have hs3 := vp.2.2.1.mp ht2
            subst ht2 hs3
            obtain ⟨cx, kx', nx', ol', cy, ky', ny', pl', h1, h2, h3⟩ := ih (c + 1) e 0 (i + 1) nxt _ _ ol _ _ (vp_updL pl e (zv_c 11 0)) (by omega) (by omega) (by omega) (by omega) (by omega) (by omega) (wr_put (a := 3) (b := 0) hE)
              (fun j hj => by
                obtain ⟨p2, q2, r1, r2, r3⟩ := hS j (by omega)
                exact ⟨p2, q2, r1, by rw [pk_uLn (by omega)]; exact r2, r3⟩) (fun z => by omega)
            refine ⟨cx, kx', nx', ol', cy, ky', ny', pl', h1, fun post h => ?_, fun post h => ?_⟩
            · obtain ⟨f, hf⟩ := h2 post h
              refine ⟨f + 1, hX post f (br_t (by rw [zk_xE]) ?_)⟩
              unfold wX_putEnd_19
              exact xs_putItem (by omega) (nm_r ei (nm_r (nI_1 i) hf))
            · obtain ⟨f, hf⟩ := h3 post h
              exact ⟨f + 1 + 1, yw_rest (by omega) (by omega) (by omega) hpi (fun Q hQ => by rw [ey]; exact yr_empty (by omega) hQ) (yw_close (d := e) (by omega) (by omega) (by rw [pk_uLs]) hf)⟩
          · have hne : ¬ zv_c s l = 12884901888 := by
              rw [zk_xE, zv_eq (by omega) l1 (by decide) (by decide)]
              intro z
              exact ht2 (vp.2.2.1.mpr z.1)
            have hX2 : ∀ (post : SX → Prop) (f : Nat), wX_write_18 post f nxt 0 (nI e) (nI (i + 1)) x_textLength x_pairCount x_placeCount x_procedureCount x_continuationCount x_frameCount x_state x_ending x_form x_environment x_frame x_value x_applied x_argumentCount x_countedCount x_consCount x_entryCount x_outputCount (nI (c + 1 + 1 + 1)) x_text x_firsts x_rests x_placeNames x_placeValues x_placeOuters x_procedureParts x_procedurePlaces x_continuationFrames x_frameTasks x_frameForms x_frameValues x_framePlaces x_frameNexts x_arguments x_outputs (wr_u (wr_u (wr_u kx c 4) (c + 1) (wr_k t)) (c + 1 + 1) 3) (wr_u (wr_u (wr_u nx c 0) (c + 1) (wr_n t k)) (c + 1 + 1) 0) ol → wX_write_18 post (f + 1) nxt 0 (nI (e + 1)) (nI i) x_textLength x_pairCount x_placeCount x_procedureCount x_continuationCount x_frameCount x_state x_ending x_form x_environment x_frame x_value x_applied x_argumentCount x_countedCount x_consCount x_entryCount x_outputCount (nI c) x_text x_firsts x_rests x_placeNames x_placeValues x_placeOuters x_procedureParts x_procedurePlaces x_continuationFrames x_frameTasks x_frameForms x_frameValues x_framePlaces x_frameNexts x_arguments x_outputs kx nx ol := by
              intro post f hf
              refine hX post f (br_f hne (xs_putItem (by omega) (xs_single vK ht2 t2 l1 (by omega) ?_)))
              unfold wX_putEnd_19
              exact xs_putItem (by omega) (nm_r ei (nm_r (nI_1 i) hf))
            have hY1 : ∀ (post : SY → Prop) (f : Nat), wY_write_17 post f (nI (e + 2)) y_size y_pairs y_open y_formCount y_places y_procedures y_continuationCount y_things y_foundCount y_argumentCount y_value y_form y_wherein y_next y_working y_ending y_counts y_made y_entered y_printCount (nI (c + 1)) y_text y_firsts y_rests y_heads y_lasts y_globals y_placeNames y_placeValues y_placeNexts y_procedureForms y_procedurePlaces y_continuations y_whats y_withs y_whereins y_soFars y_afters y_found y_foundNexts y_arguments y_prints (upd ky c 4) (upd ny c 0) (vp_updL (vp_updL pl e (zv_c 11 0)) (e + 1) (zv_c t k)) → wY_write_17 post (f + 1) (nI (e + 1)) y_size y_pairs y_open y_formCount y_places y_procedures y_continuationCount y_things y_foundCount y_argumentCount y_value y_form y_wherein y_next y_working y_ending y_counts y_made y_entered y_printCount (nI c) y_text y_firsts y_rests y_heads y_lasts y_globals y_placeNames y_placeValues y_placeNexts y_procedureForms y_procedurePlaces y_continuations y_whats y_withs y_whereins y_soFars y_afters y_found y_foundNexts y_arguments y_prints ky ny pl := fun post f hf =>
              yw_rest (by omega) (by omega) (by omega) hpi (fun Q hQ => by rw [ey]; exact yr_dot t1 ht2 t2 a1 (by omega) (by omega) hQ) hf
            by_cases hc1 : c = 120
            · exact ⟨c + 1 + 1 + 1, _, _, ol, c + 1, _, _, _, Or.inr ⟨by omega, by omega, by omega, by omega⟩, fun post h => ⟨1 + 1, hX2 post 1 (xw_over (by omega) (by omega) (by omega) h)⟩, fun post h => ⟨1 + 1, hY1 post 1 (yw_over (by omega) (by omega) (by omega) h)⟩⟩
            · have hY2 : ∀ (post : SY → Prop) (f : Nat), wY_write_17 post f (nI (e + 1)) y_size y_pairs y_open y_formCount y_places y_procedures y_continuationCount y_things y_foundCount y_argumentCount y_value y_form y_wherein y_next y_working y_ending y_counts y_made y_entered y_printCount (nI (c + 1 + 1)) y_text y_firsts y_rests y_heads y_lasts y_globals y_placeNames y_placeValues y_placeNexts y_procedureForms y_procedurePlaces y_continuations y_whats y_withs y_whereins y_soFars y_afters y_found y_foundNexts y_arguments y_prints (upd (upd ky c 4) (c + 1) (wr_k t)) (upd (upd ny c 0) (c + 1) (wr_n t k)) (vp_updL (vp_updL pl e (zv_c 11 0)) (e + 1) (zv_c t k)) → wY_write_17 post (f + 1 + 1) (nI (e + 1)) y_size y_pairs y_open y_formCount y_places y_procedures y_continuationCount y_things y_foundCount y_argumentCount y_value y_form y_wherein y_next y_working y_ending y_counts y_made y_entered y_printCount (nI c) y_text y_firsts y_rests y_heads y_lasts y_globals y_placeNames y_placeValues y_placeNexts y_procedureForms y_procedurePlaces y_continuations y_whats y_withs y_whereins y_soFars y_afters y_found y_foundNexts y_arguments y_prints ky ny pl := fun post f hf =>
                hY1 post (f + 1) (yw_single t1 ht2 t2 a1 (by omega) (by omega) (by rw [pk_uLs]) hf)
              by_cases hc2 : c = 119
              · exact ⟨c + 1 + 1 + 1, _, _, ol, c + 1 + 1, _, _, _, Or.inr ⟨by omega, by omega, by omega, by omega⟩, fun post h => ⟨1 + 1, hX2 post 1 (xw_over (by omega) (by omega) (by omega) h)⟩, fun post h => ⟨1 + 1 + 1, hY2 post 1 (yw_over (by omega) (by omega) (by omega) h)⟩⟩
              · obtain ⟨cx, kx', nx', ol', cy, ky', ny', pl', h1, h2, h3⟩ := ih (c + 1 + 1 + 1) e 0 (i + 1) nxt _ _ ol _ _ (vp_updL (vp_updL pl e (zv_c 11 0)) (e + 1) (zv_c t k)) (by omega) (by omega) (by omega) (by omega) (by omega) (by omega) (wr_put (a := 3) (b := 0) (wr_put (a := wr_k t) (b := wr_n t k) (wr_put (a := 4) (b := 0) hE)))
                  (fun j hj => by
                    obtain ⟨p2, q2, r1, r2, r3⟩ := hS j (by omega)
                    exact ⟨p2, q2, r1, by rw [pk_uLn (by omega), pk_uLn (by omega)]; exact r2, r3⟩) (fun z => by omega)
                refine ⟨cx, kx', nx', ol', cy, ky', ny', pl', h1, fun post h => ?_, fun post h => ?_⟩
                · obtain ⟨f, hf⟩ := h2 post h
                  exact ⟨f + 1, hX2 post f hf⟩
                · obtain ⟨f, hf⟩ := h3 post h
                  exact ⟨f + 1 + 1 + 1, hY2 post (f + 1) (yw_close (by omega) (by omega) (by rw [pk_uLn (by omega), pk_uLs]) hf)⟩
end
