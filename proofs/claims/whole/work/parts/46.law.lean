section LAW
variable {l : Launch} {D : va_G} {cid : Nat → ClassId} {X : CT} {Post : PT} {b L : Nat} {xs : Nat → Int32} {Z : Nat → Prop} {A B : Nat → Nat} {N n : Nat} {S : GS} {s s' : QS} {f1 f2 : HF} {cs : Nat → PC}
theorem ext_q (hB : QI B) (h : Ext (hQ f1 B N s) f2) : f2 = hQ f2 B N s := by
  funext a
  by_cases ha : isQ B a
  · obtain ⟨j, hj, rfl⟩ := ha
    have e : hQ f1 B N s (B j) = some (qc B N s j) := hQ_at hB hj
    rw [h _ _ e]
    exact (hQ_at hB hj).symm
  · exact (hQ_no ha).symm
theorem law_sw {K : Nat} {f : HF} (hdis : ∀ a, isA K A a → ¬ isQ B a) : hC K A (hQ f B N s) cs = hQ (hC K A f cs) B N s := by
  funext a
  by_cases ha : isA K A a
  · rw [show hQ (hC K A f cs) B N s a = hC K A f cs a from hQ_no (hdis a ha)]
    simp only [hC, dif_pos ha]
  · rw [hC_no ha]
    by_cases hb : isQ B a
    · simp only [hQ, dif_pos hb]
    · rw [show hQ f B N s a = f a from hQ_no hb, show hQ (hC K A f cs) B N s a = hC K A f cs a from hQ_no hb, hC_no ha]
theorem RepC.im {i : Nat} {R : RS} (hF : ∀ a c, ¬ Z a → f1 a = some c → f2 a = some c) (h : RepC Z f1 A N cs i R) : RepC Z f2 A N cs i R := by
  obtain ⟨la, va, h1, h2, h3, h4, ⟨g1, k1, k1'⟩, ⟨g2, k2, k2'⟩, ⟨g3, k3, k3'⟩, h8⟩ := h
  exact ⟨la, va, h1, h2.fm hF, h3.fm hF, h4, ⟨g1, k1, fun t ht => (k1' t ht).fm hF⟩, ⟨g2, k2, fun t ht => (k2' t ht).fm hF⟩, ⟨g3, k3, fun t ht => (k3' t ht).fm hF⟩, h8⟩
theorem GRc.im (hF : ∀ a c, ¬ Z a → f1 a = some c → f2 a = some c) (h : GRc Z f1 A N cs S) : GRc Z f2 A N cs S := by
  obtain ⟨h0, h1, ⟨g2, e2, n2⟩, h3, h4, h5⟩ := h
  exact ⟨h0, h1, ⟨g2, e2, fun k hk hk2 => by
    obtain ⟨q, hq, hm⟩ := n2 k hk hk2
    exact ⟨q, hq, hm.fm hF⟩⟩, h3, h4, fun i hi => (h5 i hi).im hF⟩
def LI (Z : Nat → Prop) (A B : Nat → Nat) (N n : Nat) (F : HF) : Prop := ∃ f1 cs s S, F = hC (5 + 5 * N) A (hQ f1 B N s) cs ∧ En Z A N (hQ f1 B N s) ∧ GRc Z (hQ f1 B N s) A N cs S ∧ Rel N s S none ∧ Ok N n S
theorem law_i (hdis : ∀ a, isA (5 + 5 * N) A a → ¬ isQ B a) (hZ : ∀ a, ¬ Z a → ¬ isQ B a) (hB : QI B) (hE : En Z A N (hQ f1 B N s)) (hx : Ext (hQ f1 B N s) f2) (hg : GRc Z f2 A N cs S) (hr : Rel N s' S none) (hok : Ok N n S) : LI Z A B N n (hQ (hC (5 + 5 * N) A f2 cs) B N s') := by
  refine ⟨f2, cs, s', S, (law_sw hdis).symm, ⟨hE.1, hE.2.1, fun a ha => ?_⟩, hg.im (fun a c hz hc => ?_), hr, hok⟩
  · by_cases hb : isQ B a
    · refine Or.inr (fun q => ?_)
      simp only [hQ, dif_pos hb] at q
      cases q
    · refine (hE.2.2 a ha).imp_right (fun hn q => hn ?_)
      rw [show hQ f2 B N s' a = f2 a from hQ_no hb] at q
      cases e : hQ f1 B N s a with
      | none => rfl
      | some c => rw [hx _ _ e] at q; cases q
  · rw [show hQ f2 B N s' a = f2 a from hQ_no (hZ a hz)]
    exact hc
theorem vi_of (h : Inv N n S) (hn : n < 2 ^ 30) : VI N S := by
  intro i hi
  obtain ⟨v, h1, h2⟩ := (h.1 i hi).2.1
  refine ⟨⟨v, by omega, h2⟩, fun t m ht hm => ?_⟩
  obtain ⟨w, h3, h4⟩ := ((h.1 i hi).2.2.2.2.2.2.2.2.2.2.1 t m ht hm).1.2.2.2.2.1
  exact ⟨w, by omega, h4⟩
theorem vm_of (h : Inv N n S) (hn : n < 2 ^ 30) : VM S := by
  intro k hk
  obtain ⟨w, h3, h4⟩ := (h.2.1 k hk).2.2.2.2.1
  exact ⟨w, by omega, h4⟩
theorem i_swg {lv : LV} {r : List Value} {F : HF} {bc bs : Nat} {x : Int32} {lo hi : Int} {ks : List KN} {kd : KN} (hd : kd lv r F bc bs) (hk : ∀ (i : Nat) (k : KN), x.toInt = lo + (i : Int) → ks[i]? = some k → k lv r F bc bs) : seg [] (t_sw lo hi ks kd) lv (.int x :: r) F bc bs := ⟨x, r, rfl, fun _ => hd, hk⟩
theorem law_loop (hX : OK l D cid m_W_law X Post) (hsc : Scr X b L xs) (hL : L ≤ 2561) (hpost : ∀ f, Post (some (.int 1)) f) (hN : N = 3 ∨ N = 5) (hA : AI (5 + 5 * N) A) (hB : QI B) (hdis : ∀ a, isA (5 + 5 * N) A a → ¬ isQ B a) (hZ : ∀ a, ¬ Z a → ¬ isQ B a) :
    ∀ n, n ≤ 512 → ∀ (F : HF) (bc bs : Nat), LI Z A B N n F → 23 * (512 - n) ≤ bc → 179 * (512 - n) ≤ bs → FR l D cid m_W_law X 28 [some (.ref b), some (.ref (A 0)), some (.ref (B 0)), some (.int (nI (1 + 5 * n)))] [] F bc bs := by
  have cmpk : ∀ n, n ≤ 512 → ((nI L - 5 < nI (1 + 5 * n)) ↔ L < 1 + 5 * n + 5) := fun n hn => by
    rw [Int32.lt_iff_toInt_lt, nn_5, pk_sub_toInt (by omega) (by omega), nI_toInt (by omega)]
    omega
  have fin : ∀ (n : Nat) (F : HF) (bc bs : Nat), FR l D cid m_W_law X 625 [some (.ref b), some (.ref (A 0)), some (.ref (B 0)), some (.int (nI (1 + 5 * n)))] [] F bc bs := by
    intro n F bc bs
    refine b_W_law_625 hX hsc _ _ _ _ _ (i_push <| i_zret ?_)
    exact hpost _
  refine up_to ?_ ?_
  · intro F bc bs hLI hb1 hb2
    refine b_W_law_28 hX hsc _ _ _ _ _ (i_iload rfl <| i_aload rfl <| i_slen <| i_push <| i_bin <| i_cmp_t ((cmpk 512 (by omega)).mpr (by omega)) ?_)
    exact fin _ _ _ _
  · intro n hn ih F bc bs hLI hb1 hb2
    rcases Nat.lt_or_ge L (1 + 5 * n + 5) with hlt | hge
    · refine b_W_law_28 hX hsc _ _ _ _ _ (i_iload rfl <| i_aload rfl <| i_slen <| i_push <| i_bin <| i_cmp_t ((cmpk n (by omega)).mpr hlt) ?_)
      exact fin _ _ _ _
    · have h619 : ∀ (F : HF) (bc bs : Nat), LI Z A B N (n + 1) F → 23 * (512 - (n + 1)) ≤ bc → 179 * (512 - (n + 1)) ≤ bs → FR l D cid m_W_law X 619 [some (.ref b), some (.ref (A 0)), some (.ref (B 0)), some (.int (nI (1 + 5 * n)))] [] F bc bs := by
        intro F bc bs h1 h2 h3
        refine b_W_law_619 hX hsc _ _ _ _ _ (i_iinc rfl <| i_end ?_)
        have hq := ih F bc bs h1 h2 h3
        rw [show 1 + 5 * (n + 1) = (1 + 5 * n) + 5 by omega, ← nI_add] at hq
        exact hq
      obtain ⟨f1, cs, s, S, rfl, hE, hG, hR, hok⟩ := hLI
      have hI := hok.1
      have hT0 := hok.2
      have hn30 : n < 2 ^ 30 := by omega
      have hT28 : gT S < 2 ^ 28 := by omega
      have hT29 : gT S < 2 ^ 29 := by omega
      have hT30 : gT S < 2 ^ 30 := by omega
      have hVI := vi_of hI hn30
      have hVM := vm_of hI hn30
      refine b_W_law_28 hX hsc _ _ _ _ _ (i_iload rfl <| i_aload rfl <| i_slen <| i_push <| i_bin <| i_cmp_f (fun q => absurd ((cmpk n (by omega)).mp q) (by omega)) ?_)
      refine b_W_law_36 hX hsc _ _ _ _ _ (i_aload rfl <| i_iload rfl <| i_sld ⟨rfl, by omega, by omega⟩ <| i_push <| i_bin <| i_swg ?_ ?_)
      · exact h619 _ _ _ ⟨f1, cs, s, S, rfl, hE, hG, hR, hok.up⟩ (by omega) (by omega)
      · intro j k _ hk
        rcases j with _ | _ | _ | _ | _ | _ | _ | _ | _ | _ | _ | _ | _ | _ | _ | _ | _ | _ | _ | j
        · cases hk
          refine b_W_law_132 hX hsc _ _ _ _ _ (i_aload rfl <| i_aload rfl <| i_iload rfl <| i_push <| i_bin <| i_sld ⟨nI_add _ 1, by omega, by omega⟩ <| i_aload rfl <| i_iload rfl <| i_push <| i_bin <| i_sld ⟨nI_add _ 2, by omega, by omega⟩ <| i_aload rfl <| i_iload rfl <| i_push <| i_bin <| i_sld ⟨nI_add _ 3, by omega, by omega⟩ <| i_aload rfl <| i_iload rfl <| i_push <| i_bin <| i_sld ⟨nI_add _ 4, by omega, by omega⟩ <| ?_)
          refine j_callV (c_cell hA (by omega) hG.1) (sp_request hE hN hG hT29) rfl rfl ?_ (h4 := by show 6 ≤ bc; omega) (h5 := by show 46 ≤ bs; omega)
          rintro v F' ⟨rfl, f2, c2, rfl, hx2, hg2⟩
          have e2 := ext_q hB hx2
          have eH : hC (5 + 5 * N) A f2 c2 = hQ (hC (5 + 5 * N) A f2 c2) B N s := by
            rw [← law_sw hdis, ← e2]
          rw [eH]
          refine (i_aload rfl <| i_aload rfl <| i_iload rfl <| i_push <| i_bin <| i_sld ⟨nI_add _ 1, by omega, by omega⟩ <| i_aload rfl <| i_iload rfl <| i_push <| i_bin <| i_sld ⟨nI_add _ 2, by omega, by omega⟩ <| i_aload rfl <| i_iload rfl <| i_push <| i_bin <| i_sld ⟨nI_add _ 3, by omega, by omega⟩ <| i_aload rfl <| i_iload rfl <| i_push <| i_bin <| i_sld ⟨nI_add _ 4, by omega, by omega⟩ <| ?_)
          refine j_callV (q_this hB) (sp_Q_request hB hN hR hI hn30 hT28) rfl rfl ?_
          rintro v F' ⟨rfl, s2, rfl, hr2⟩
          refine (i_cmp_t rfl ?_)
          exact h619 _ _ _ (law_i hdis hZ hB hE hx2 hg2 hr2 (ok_request hN hok)) (by show _ ≤ bc - 6 - 0; omega) (by show _ ≤ bs - 46 - 0; omega)
        · cases hk
          refine b_W_law_185 hX hsc _ _ _ _ _ (i_aload rfl <| i_aload rfl <| i_iload rfl <| i_push <| i_bin <| i_sld ⟨nI_add _ 1, by omega, by omega⟩ <| ?_)
          refine j_callV (c_cell hA (by omega) hG.1) (sp_deliver hE hN hG hT28 hVI hVM) rfl rfl ?_ (h4 := by show 23 ≤ bc; omega) (h5 := by show 179 ≤ bs; omega)
          rintro v F' ⟨rfl, f2, c2, rfl, hx2, hg2⟩
          have e2 := ext_q hB hx2
          have eH : hC (5 + 5 * N) A f2 c2 = hQ (hC (5 + 5 * N) A f2 c2) B N s := by
            rw [← law_sw hdis, ← e2]
          rw [eH]
          refine (i_aload rfl <| i_aload rfl <| i_iload rfl <| i_push <| i_bin <| i_sld ⟨nI_add _ 1, by omega, by omega⟩ <| ?_)
          refine j_callV (q_this hB) (sp_Q_deliver hB hN hR hI hn30 hT28) rfl rfl ?_
          rintro v F' ⟨rfl, s2, rfl, hr2⟩
          refine (i_cmp_t rfl ?_)
          exact h619 _ _ _ (law_i hdis hZ hB hE hx2 hg2 hr2 (ok_deliver hN hn30 hok)) (by show _ ≤ bc - 23 - 0; omega) (by show _ ≤ bs - 179 - 0; omega)
        · cases hk
          refine b_W_law_208 hX hsc _ _ _ _ _ (i_aload rfl <| ?_)
          refine j_callV (c_cell hA (by omega) hG.1) (sp_next hE hN hG hT28 hVI hVM) rfl rfl ?_ (h4 := by show 23 ≤ bc; omega) (h5 := by show 179 ≤ bs; omega)
          rintro v F' ⟨rfl, f2, c2, rfl, hx2, hg2⟩
          have e2 := ext_q hB hx2
          have eH : hC (5 + 5 * N) A f2 c2 = hQ (hC (5 + 5 * N) A f2 c2) B N s := by
            rw [← law_sw hdis, ← e2]
          rw [eH]
          refine (i_aload rfl <| ?_)
          refine j_callV (q_this hB) (sp_Q_next hB hN hR hI hn30 hT28) rfl rfl ?_
          rintro v F' ⟨rfl, s2, rfl, hr2⟩
          refine (i_cmp_t rfl ?_)
          exact h619 _ _ _ (law_i hdis hZ hB hE hx2 hg2 hr2 (ok_next hN hn30 hok)) (by show _ ≤ bc - 23 - 0; omega) (by show _ ≤ bs - 179 - 0; omega)
        · cases hk
          refine b_W_law_221 hX hsc _ _ _ _ _ (i_aload rfl <| i_aload rfl <| i_iload rfl <| i_push <| i_bin <| i_sld ⟨nI_add _ 1, by omega, by omega⟩ <| ?_)
          refine j_callV (c_cell hA (by omega) hG.1) (sp_remind hE hN hG hT29) rfl rfl ?_ (h4 := by show 5 ≤ bc; omega) (h5 := by show 40 ≤ bs; omega)
          rintro v F' ⟨rfl, f2, c2, rfl, hx2, hg2⟩
          have e2 := ext_q hB hx2
          have eH : hC (5 + 5 * N) A f2 c2 = hQ (hC (5 + 5 * N) A f2 c2) B N s := by
            rw [← law_sw hdis, ← e2]
          rw [eH]
          refine (i_aload rfl <| i_aload rfl <| i_iload rfl <| i_push <| i_bin <| i_sld ⟨nI_add _ 1, by omega, by omega⟩ <| ?_)
          refine j_callV (q_this hB) (sp_Q_remind hB hN hR hI hn30 hT28) rfl rfl ?_
          rintro v F' ⟨rfl, s2, rfl, hr2⟩
          refine (i_cmp_t rfl ?_)
          exact h619 _ _ _ (law_i hdis hZ hB hE hx2 hg2 hr2 (ok_remind hN hok)) (by show _ ≤ bc - 5 - 0; omega) (by show _ ≤ bs - 40 - 0; omega)
        · cases hk
          refine b_W_law_244 hX hsc _ _ _ _ _ (i_aload rfl <| i_aload rfl <| i_iload rfl <| i_push <| i_bin <| i_sld ⟨nI_add _ 1, by omega, by omega⟩ <| ?_)
          refine j_callV (c_cell hA (by omega) hG.1) (sp_suspect hE hN hG hT29) rfl rfl ?_ (h4 := by show 5 ≤ bc; omega) (h5 := by show 40 ≤ bs; omega)
          rintro v F' ⟨rfl, f2, c2, rfl, hx2, hg2⟩
          have e2 := ext_q hB hx2
          have eH : hC (5 + 5 * N) A f2 c2 = hQ (hC (5 + 5 * N) A f2 c2) B N s := by
            rw [← law_sw hdis, ← e2]
          rw [eH]
          refine (i_aload rfl <| i_aload rfl <| i_iload rfl <| i_push <| i_bin <| i_sld ⟨nI_add _ 1, by omega, by omega⟩ <| ?_)
          refine j_callV (q_this hB) (sp_Q_suspect hB hN hR hI hT28) rfl rfl ?_
          rintro v F' ⟨rfl, s2, rfl, hr2⟩
          refine (i_cmp_t rfl ?_)
          exact h619 _ _ _ (law_i hdis hZ hB hE hx2 hg2 hr2 (ok_suspect hN hok)) (by show _ ≤ bc - 5 - 0; omega) (by show _ ≤ bs - 40 - 0; omega)
        · cases hk
          refine b_W_law_267 hX hsc _ _ _ _ _ (i_aload rfl <| i_aload rfl <| i_iload rfl <| i_push <| i_bin <| i_sld ⟨nI_add _ 1, by omega, by omega⟩ <| ?_)
          refine j_callV (c_cell hA (by omega) hG.1) (sp_crash hE hN hG) rfl rfl ?_ (h4 := by show 2 ≤ bc; omega) (h5 := by show 70 ≤ bs; omega)
          rintro v F' ⟨rfl, f2, c2, rfl, hx2, hg2⟩
          have e2 := ext_q hB hx2
          have eH : hC (5 + 5 * N) A f2 c2 = hQ (hC (5 + 5 * N) A f2 c2) B N s := by
            rw [← law_sw hdis, ← e2]
          rw [eH]
          refine (i_aload rfl <| i_aload rfl <| i_iload rfl <| i_push <| i_bin <| i_sld ⟨nI_add _ 1, by omega, by omega⟩ <| ?_)
          refine j_callV (q_this hB) (sp_Q_crash hB hN hR hI) rfl rfl ?_
          rintro v F' ⟨rfl, s2, rfl, hr2⟩
          refine (i_cmp_t rfl ?_)
          exact h619 _ _ _ (law_i hdis hZ hB hE hx2 hg2 hr2 (ok_crash hN hok)) (by show _ ≤ bc - 2 - 0; omega) (by show _ ≤ bs - 70 - 0; omega)
        · cases hk
          refine b_W_law_290 hX hsc _ _ _ _ _ (i_aload rfl <| i_aload rfl <| i_iload rfl <| i_push <| i_bin <| i_sld ⟨nI_add _ 1, by omega, by omega⟩ <| i_aload rfl <| i_iload rfl <| i_push <| i_bin <| i_sld ⟨nI_add _ 2, by omega, by omega⟩ <| ?_)
          refine j_callV (c_cell hA (by omega) hG.1) (sp_recover hE hN hG hT29) rfl rfl ?_ (h4 := by show 7 ≤ bc; omega) (h5 := by show 110 ≤ bs; omega)
          rintro v F' ⟨rfl, f2, c2, rfl, hx2, hg2⟩
          have e2 := ext_q hB hx2
          have eH : hC (5 + 5 * N) A f2 c2 = hQ (hC (5 + 5 * N) A f2 c2) B N s := by
            rw [← law_sw hdis, ← e2]
          rw [eH]
          refine (i_aload rfl <| i_aload rfl <| i_iload rfl <| i_push <| i_bin <| i_sld ⟨nI_add _ 1, by omega, by omega⟩ <| i_aload rfl <| i_iload rfl <| i_push <| i_bin <| i_sld ⟨nI_add _ 2, by omega, by omega⟩ <| ?_)
          refine j_callV (q_this hB) (sp_Q_recover hB hN hR hI hT28) rfl rfl ?_
          rintro v F' ⟨rfl, s2, rfl, hr2⟩
          refine (i_cmp_t rfl ?_)
          exact h619 _ _ _ (law_i hdis hZ hB hE hx2 hg2 hr2 (ok_recover hN hok)) (by show _ ≤ bc - 7 - 0; omega) (by show _ ≤ bs - 110 - 0; omega)
        · cases hk
          refine b_W_law_323 hX hsc _ _ _ _ _ (i_aload rfl <| i_aload rfl <| i_iload rfl <| i_push <| i_bin <| i_sld ⟨nI_add _ 1, by omega, by omega⟩ <| ?_)
          refine j_callV (c_cell hA (by omega) hG.1) (sp_status hE hN hG) rfl rfl ?_ (h4 := by show 0 ≤ bc; omega) (h5 := by show 0 ≤ bs; omega)
          rintro v F' ⟨rfl, f2, c2, rfl, hx2, hg2⟩
          have e2 := ext_q hB hx2
          have eH : hC (5 + 5 * N) A f2 c2 = hQ (hC (5 + 5 * N) A f2 c2) B N s := by
            rw [← law_sw hdis, ← e2]
          rw [eH]
          refine (i_aload rfl <| i_aload rfl <| i_iload rfl <| i_push <| i_bin <| i_sld ⟨nI_add _ 1, by omega, by omega⟩ <| ?_)
          refine j_callV (q_this hB) (sp_Q_status hB hN hR) rfl rfl ?_
          rintro v F' ⟨rfl, s2, rfl, hr2⟩
          refine (i_cmp_t rfl ?_)
          exact h619 _ _ _ (law_i hdis hZ hB hE hx2 hg2 hr2 (hok.up)) (by show _ ≤ bc - 0 - 0; omega) (by show _ ≤ bs - 0 - 0; omega)
        · cases hk
          refine b_W_law_346 hX hsc _ _ _ _ _ (i_aload rfl <| i_aload rfl <| i_iload rfl <| i_push <| i_bin <| i_sld ⟨nI_add _ 1, by omega, by omega⟩ <| ?_)
          refine j_callV (c_cell hA (by omega) hG.1) (sp_view hE hN hG) rfl rfl ?_ (h4 := by show 0 ≤ bc; omega) (h5 := by show 0 ≤ bs; omega)
          rintro v F' ⟨rfl, f2, c2, rfl, hx2, hg2⟩
          have e2 := ext_q hB hx2
          have eH : hC (5 + 5 * N) A f2 c2 = hQ (hC (5 + 5 * N) A f2 c2) B N s := by
            rw [← law_sw hdis, ← e2]
          rw [eH]
          refine (i_aload rfl <| i_aload rfl <| i_iload rfl <| i_push <| i_bin <| i_sld ⟨nI_add _ 1, by omega, by omega⟩ <| ?_)
          refine j_callV (q_this hB) (sp_Q_view hB hN hR) rfl rfl ?_
          rintro v F' ⟨rfl, s2, rfl, hr2⟩
          refine (i_cmp_t rfl ?_)
          exact h619 _ _ _ (law_i hdis hZ hB hE hx2 hg2 hr2 (hok.up)) (by show _ ≤ bc - 0 - 0; omega) (by show _ ≤ bs - 0 - 0; omega)
        · cases hk
          refine b_W_law_369 hX hsc _ _ _ _ _ (i_aload rfl <| i_aload rfl <| i_iload rfl <| i_push <| i_bin <| i_sld ⟨nI_add _ 1, by omega, by omega⟩ <| ?_)
          refine j_callV (c_cell hA (by omega) hG.1) (sp_length hE hN hG) rfl rfl ?_ (h4 := by show 0 ≤ bc; omega) (h5 := by show 0 ≤ bs; omega)
          rintro v F' ⟨rfl, f2, c2, rfl, hx2, hg2⟩
          have e2 := ext_q hB hx2
          have eH : hC (5 + 5 * N) A f2 c2 = hQ (hC (5 + 5 * N) A f2 c2) B N s := by
            rw [← law_sw hdis, ← e2]
          rw [eH]
          refine (i_aload rfl <| i_aload rfl <| i_iload rfl <| i_push <| i_bin <| i_sld ⟨nI_add _ 1, by omega, by omega⟩ <| ?_)
          refine j_callV (q_this hB) (sp_Q_length hB hN hR) rfl rfl ?_
          rintro v F' ⟨rfl, s2, rfl, hr2⟩
          refine (i_cmp_t rfl ?_)
          exact h619 _ _ _ (law_i hdis hZ hB hE hx2 hg2 hr2 (hok.up)) (by show _ ≤ bc - 0 - 0; omega) (by show _ ≤ bs - 0 - 0; omega)
        · cases hk
          refine b_W_law_392 hX hsc _ _ _ _ _ (i_aload rfl <| i_aload rfl <| i_iload rfl <| i_push <| i_bin <| i_sld ⟨nI_add _ 1, by omega, by omega⟩ <| ?_)
          refine j_callV (c_cell hA (by omega) hG.1) (sp_commit hE hN hG) rfl rfl ?_ (h4 := by show 0 ≤ bc; omega) (h5 := by show 0 ≤ bs; omega)
          rintro v F' ⟨rfl, f2, c2, rfl, hx2, hg2⟩
          have e2 := ext_q hB hx2
          have eH : hC (5 + 5 * N) A f2 c2 = hQ (hC (5 + 5 * N) A f2 c2) B N s := by
            rw [← law_sw hdis, ← e2]
          rw [eH]
          refine (i_aload rfl <| i_aload rfl <| i_iload rfl <| i_push <| i_bin <| i_sld ⟨nI_add _ 1, by omega, by omega⟩ <| ?_)
          refine j_callV (q_this hB) (sp_Q_commit hB hN hR) rfl rfl ?_
          rintro v F' ⟨rfl, s2, rfl, hr2⟩
          refine (i_cmp_t rfl ?_)
          exact h619 _ _ _ (law_i hdis hZ hB hE hx2 hg2 hr2 (hok.up)) (by show _ ≤ bc - 0 - 0; omega) (by show _ ≤ bs - 0 - 0; omega)
        · cases hk
          refine b_W_law_415 hX hsc _ _ _ _ _ (i_aload rfl <| i_aload rfl <| i_iload rfl <| i_push <| i_bin <| i_sld ⟨nI_add _ 1, by omega, by omega⟩ <| i_aload rfl <| i_iload rfl <| i_push <| i_bin <| i_sld ⟨nI_add _ 2, by omega, by omega⟩ <| ?_)
          refine j_callV (c_cell hA (by omega) hG.1) (sp_entry hE hN hG) rfl rfl ?_ (h4 := by show 0 ≤ bc; omega) (h5 := by show 0 ≤ bs; omega)
          rintro v F' ⟨rfl, f2, c2, rfl, hx2, hg2⟩
          have e2 := ext_q hB hx2
          have eH : hC (5 + 5 * N) A f2 c2 = hQ (hC (5 + 5 * N) A f2 c2) B N s := by
            rw [← law_sw hdis, ← e2]
          rw [eH]
          refine (i_aload rfl <| i_aload rfl <| i_iload rfl <| i_push <| i_bin <| i_sld ⟨nI_add _ 1, by omega, by omega⟩ <| i_aload rfl <| i_iload rfl <| i_push <| i_bin <| i_sld ⟨nI_add _ 2, by omega, by omega⟩ <| ?_)
          refine j_callV (q_this hB) (sp_Q_entry hB hN hR) rfl rfl ?_
          rintro v F' ⟨rfl, s2, rfl, hr2⟩
          refine (i_cmp_t rfl ?_)
          exact h619 _ _ _ (law_i hdis hZ hB hE hx2 hg2 hr2 (hok.up)) (by show _ ≤ bc - 0 - 0; omega) (by show _ ≤ bs - 0 - 0; omega)
        · cases hk
          refine b_W_law_448 hX hsc _ _ _ _ _ (i_aload rfl <| i_aload rfl <| i_iload rfl <| i_push <| i_bin <| i_sld ⟨nI_add _ 1, by omega, by omega⟩ <| i_aload rfl <| i_iload rfl <| i_push <| i_bin <| i_sld ⟨nI_add _ 2, by omega, by omega⟩ <| ?_)
          refine j_callV (c_cell hA (by omega) hG.1) (sp_origin hE hN hG) rfl rfl ?_ (h4 := by show 0 ≤ bc; omega) (h5 := by show 0 ≤ bs; omega)
          rintro v F' ⟨rfl, f2, c2, rfl, hx2, hg2⟩
          have e2 := ext_q hB hx2
          have eH : hC (5 + 5 * N) A f2 c2 = hQ (hC (5 + 5 * N) A f2 c2) B N s := by
            rw [← law_sw hdis, ← e2]
          rw [eH]
          refine (i_aload rfl <| i_aload rfl <| i_iload rfl <| i_push <| i_bin <| i_sld ⟨nI_add _ 1, by omega, by omega⟩ <| i_aload rfl <| i_iload rfl <| i_push <| i_bin <| i_sld ⟨nI_add _ 2, by omega, by omega⟩ <| ?_)
          refine j_callV (q_this hB) (sp_Q_origin hB hN hR) rfl rfl ?_
          rintro v F' ⟨rfl, s2, rfl, hr2⟩
          refine (i_cmp_t rfl ?_)
          exact h619 _ _ _ (law_i hdis hZ hB hE hx2 hg2 hr2 (hok.up)) (by show _ ≤ bc - 0 - 0; omega) (by show _ ≤ bs - 0 - 0; omega)
        · cases hk
          refine b_W_law_481 hX hsc _ _ _ _ _ (i_aload rfl <| i_aload rfl <| i_iload rfl <| i_push <| i_bin <| i_sld ⟨nI_add _ 1, by omega, by omega⟩ <| ?_)
          refine j_callV (c_cell hA (by omega) hG.1) (sp_total hE hN hG) rfl rfl ?_ (h4 := by show 0 ≤ bc; omega) (h5 := by show 0 ≤ bs; omega)
          rintro v F' ⟨rfl, f2, c2, rfl, hx2, hg2⟩
          have e2 := ext_q hB hx2
          have eH : hC (5 + 5 * N) A f2 c2 = hQ (hC (5 + 5 * N) A f2 c2) B N s := by
            rw [← law_sw hdis, ← e2]
          rw [eH]
          refine (i_aload rfl <| i_aload rfl <| i_iload rfl <| i_push <| i_bin <| i_sld ⟨nI_add _ 1, by omega, by omega⟩ <| ?_)
          refine j_callV (q_this hB) (sp_Q_total hB hN hR hI) rfl rfl ?_
          rintro v F' ⟨rfl, s2, rfl, hr2⟩
          refine (i_cmp_t rfl ?_)
          exact h619 _ _ _ (law_i hdis hZ hB hE hx2 hg2 hr2 (hok.up)) (by show _ ≤ bc - 0 - 0; omega) (by show _ ≤ bs - 0 - 0; omega)
        · cases hk
          refine b_W_law_504 hX hsc _ _ _ _ _ (i_aload rfl <| i_aload rfl <| i_iload rfl <| i_push <| i_bin <| i_sld ⟨nI_add _ 1, by omega, by omega⟩ <| i_aload rfl <| i_iload rfl <| i_push <| i_bin <| i_sld ⟨nI_add _ 2, by omega, by omega⟩ <| ?_)
          refine j_callV (c_cell hA (by omega) hG.1) (sp_vector hE hN hG) rfl rfl ?_ (h4 := by show 0 ≤ bc; omega) (h5 := by show 0 ≤ bs; omega)
          rintro v F' ⟨rfl, f2, c2, rfl, hx2, hg2⟩
          have e2 := ext_q hB hx2
          have eH : hC (5 + 5 * N) A f2 c2 = hQ (hC (5 + 5 * N) A f2 c2) B N s := by
            rw [← law_sw hdis, ← e2]
          rw [eH]
          refine (i_aload rfl <| i_aload rfl <| i_iload rfl <| i_push <| i_bin <| i_sld ⟨nI_add _ 1, by omega, by omega⟩ <| i_aload rfl <| i_iload rfl <| i_push <| i_bin <| i_sld ⟨nI_add _ 2, by omega, by omega⟩ <| ?_)
          refine j_callV (q_this hB) (sp_Q_vector hB hN hR) rfl rfl ?_
          rintro v F' ⟨rfl, s2, rfl, hr2⟩
          refine (i_cmp_t rfl ?_)
          exact h619 _ _ _ (law_i hdis hZ hB hE hx2 hg2 hr2 (hok.up)) (by show _ ≤ bc - 0 - 0; omega) (by show _ ≤ bs - 0 - 0; omega)
        · cases hk
          refine b_W_law_537 hX hsc _ _ _ _ _ (i_aload rfl <| ?_)
          refine j_callV (c_cell hA (by omega) hG.1) (sp_sent hE hG) rfl rfl ?_ (h4 := by show 0 ≤ bc; omega) (h5 := by show 0 ≤ bs; omega)
          rintro v F' ⟨rfl, f2, c2, rfl, hx2, hg2⟩
          have e2 := ext_q hB hx2
          have eH : hC (5 + 5 * N) A f2 c2 = hQ (hC (5 + 5 * N) A f2 c2) B N s := by
            rw [← law_sw hdis, ← e2]
          rw [eH]
          refine (i_aload rfl <| ?_)
          refine j_callV (q_this hB) (sp_Q_sent hB hR) rfl rfl ?_
          rintro v F' ⟨rfl, s2, rfl, hr2⟩
          refine (i_cmp_t rfl ?_)
          exact h619 _ _ _ (law_i hdis hZ hB hE hx2 hg2 hr2 (hok.up)) (by show _ ≤ bc - 0 - 0; omega) (by show _ ≤ bs - 0 - 0; omega)
        · cases hk
          refine b_W_law_550 hX hsc _ _ _ _ _ (i_aload rfl <| i_aload rfl <| i_iload rfl <| i_push <| i_bin <| i_sld ⟨nI_add _ 1, by omega, by omega⟩ <| ?_)
          refine j_callV (c_cell hA (by omega) hG.1) (sp_message hE hG hT30) rfl rfl ?_ (h4 := by show 0 ≤ bc; omega) (h5 := by show 0 ≤ bs; omega)
          rintro v F' ⟨rfl, f2, c2, rfl, hx2, hg2⟩
          have e2 := ext_q hB hx2
          have eH : hC (5 + 5 * N) A f2 c2 = hQ (hC (5 + 5 * N) A f2 c2) B N s := by
            rw [← law_sw hdis, ← e2]
          rw [eH]
          refine (i_aload rfl <| i_aload rfl <| i_iload rfl <| i_push <| i_bin <| i_sld ⟨nI_add _ 1, by omega, by omega⟩ <| ?_)
          refine j_callV (q_this hB) (sp_Q_message hB hR hT28) rfl rfl ?_
          rintro v F' ⟨rfl, s2, rfl, hr2⟩
          refine (i_cmp_t rfl ?_)
          exact h619 _ _ _ (law_i hdis hZ hB hE hx2 hg2 hr2 (hok.up)) (by show _ ≤ bc - 0 - 0; omega) (by show _ ≤ bs - 0 - 0; omega)
        · cases hk
          refine b_W_law_573 hX hsc _ _ _ _ _ (i_aload rfl <| i_aload rfl <| i_iload rfl <| i_push <| i_bin <| i_sld ⟨nI_add _ 1, by omega, by omega⟩ <| ?_)
          refine j_callV (c_cell hA (by omega) hG.1) (sp_answered hE hG) rfl rfl ?_ (h4 := by show 0 ≤ bc; omega) (h5 := by show 0 ≤ bs; omega)
          rintro v F' ⟨rfl, f2, c2, rfl, hx2, hg2⟩
          have e2 := ext_q hB hx2
          have eH : hC (5 + 5 * N) A f2 c2 = hQ (hC (5 + 5 * N) A f2 c2) B N s := by
            rw [← law_sw hdis, ← e2]
          rw [eH]
          refine (i_aload rfl <| i_aload rfl <| i_iload rfl <| i_push <| i_bin <| i_sld ⟨nI_add _ 1, by omega, by omega⟩ <| ?_)
          refine j_callV (q_this hB) (sp_Q_answered hB hR) rfl rfl ?_
          rintro v F' ⟨rfl, s2, rfl, hr2⟩
          refine (i_cmp_t rfl ?_)
          exact h619 _ _ _ (law_i hdis hZ hB hE hx2 hg2 hr2 (hok.up)) (by show _ ≤ bc - 0 - 0; omega) (by show _ ≤ bs - 0 - 0; omega)
        · cases hk
          refine b_W_law_596 hX hsc _ _ _ _ _ (i_aload rfl <| i_aload rfl <| i_iload rfl <| i_push <| i_bin <| i_sld ⟨nI_add _ 1, by omega, by omega⟩ <| ?_)
          refine j_callV (c_cell hA (by omega) hG.1) (sp_answer hE hG) rfl rfl ?_ (h4 := by show 0 ≤ bc; omega) (h5 := by show 0 ≤ bs; omega)
          rintro v F' ⟨rfl, f2, c2, rfl, hx2, hg2⟩
          have e2 := ext_q hB hx2
          have eH : hC (5 + 5 * N) A f2 c2 = hQ (hC (5 + 5 * N) A f2 c2) B N s := by
            rw [← law_sw hdis, ← e2]
          rw [eH]
          refine (i_aload rfl <| i_aload rfl <| i_iload rfl <| i_push <| i_bin <| i_sld ⟨nI_add _ 1, by omega, by omega⟩ <| ?_)
          refine j_callV (q_this hB) (sp_Q_answer hB hR) rfl rfl ?_
          rintro v F' ⟨rfl, s2, rfl, hr2⟩
          refine (i_cmp_t rfl ?_)
          exact h619 _ _ _ (law_i hdis hZ hB hE hx2 hg2 hr2 (hok.up)) (by show _ ≤ bc - 0 - 0; omega) (by show _ ≤ bs - 0 - 0; omega)
        · simp at hk
end LAW
