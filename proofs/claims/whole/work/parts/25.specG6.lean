section SPL
variable {l : Launch} {D : va_G} {cid : Nat → ClassId} {Z : Nat → Prop} {f : HF} {A : Nat → Nat} {N i : Nat} {cs : Nat → PC} {S : GS}
theorem i_sw8 {lv : LV} {r : List Value} {F : HF} {bc bs : Nat} {x : Int32} {k1 k2 k3 k4 k5 k6 k7 k8 kd : KN} (h1 : x = 1 → k1 lv r F bc bs) (h2 : x = 2 → k2 lv r F bc bs) (h3 : x = 3 → k3 lv r F bc bs) (h4 : x = 4 → k4 lv r F bc bs) (h5 : x = 5 → k5 lv r F bc bs) (h6 : x = 6 → k6 lv r F bc bs) (h7 : x = 7 → k7 lv r F bc bs) (h8 : x = 8 → k8 lv r F bc bs)
    (hd : ¬ x = 1 → ¬ x = 2 → ¬ x = 3 → ¬ x = 4 → ¬ x = 5 → ¬ x = 6 → ¬ x = 7 → ¬ x = 8 → kd lv r F bc bs) : seg [] (t_sw 1 8 [k1, k2, k3, k4, k5, k6, k7, k8] kd) lv (.int x :: r) F bc bs := by
  have e : ∀ n : Nat, n < 2 ^ 31 → x.toInt = (n : Int) → x = nI n := fun n hn h => Int32.toInt_inj.mp (h.trans (nI_toInt hn).symm)
  have o : ∀ n : Nat, n < 2 ^ 31 → x = nI n → x.toInt = (n : Int) := fun n hn h => by rw [h, nI_toInt hn]
  refine ⟨x, r, rfl, fun h => ?_, fun i k hi hk => ?_⟩
  · exact hd (fun q => by have := o 1 (by decide) q; omega) (fun q => by have := o 2 (by decide) q; omega) (fun q => by have := o 3 (by decide) q; omega) (fun q => by have := o 4 (by decide) q; omega) (fun q => by have := o 5 (by decide) q; omega) (fun q => by have := o 6 (by decide) q; omega) (fun q => by have := o 7 (by decide) q; omega) (fun q => by have := o 8 (by decide) q; omega)
  · rcases i with _ | _ | _ | _ | _ | _ | _ | _ | i
    · cases hk; exact h1 (e 1 (by decide) hi)
    · cases hk; exact h2 (e 2 (by decide) hi)
    · cases hk; exact h3 (e 3 (by decide) hi)
    · cases hk; exact h4 (e 4 (by decide) hi)
    · cases hk; exact h5 (e 5 (by decide) hi)
    · cases hk; exact h6 (e 6 (by decide) hi)
    · cases hk; exact h7 (e 7 (by decide) hi)
    · cases hk; exact h8 (e 8 (by decide) hi)
    · simp at hk
theorem sp_receive {q : Nat} {m : Msg} (hE : En Z A N f) (hN : N = 3 ∨ N = 5) (hm : MsgR Z f N q m) (hG : GRc Z f A N cs S) (hT : gT S < 2 ^ 28) (hV : VI N S) (hmv : sml (mV m)) :
    CS l D cid m_G_receive [.ref (A 0), .ref q] (hC (5 + 5 * N) A f cs) (PH Z f A N (some (.int (g_recv N S m).1)) (g_recv N S m).2) := by
  intro X hX
  have hA := hE.1
  obtain ⟨mz, mva, mla, m1, m2, m3, m4, m5, m6⟩ := id hm
  have h5' : 5 + 5 * mD m < 5 + 5 * N := by omega
  obtain ⟨h0, ⟨g1, e1, n1⟩, h2, h3, h4, h5⟩ := id hG
  have hR := h5 (mD m) m5
  obtain ⟨la, va, r1, r2, r3, r4⟩ := id hR
  have hmc := hE.im (cs := cs) _ _ mz m1
  have hrc := c_cell (f := f) hA h5' r1
  refine b_G_receive_0 hX _ _ _ _ _ (i_aload rfl <| i_getf (c_cell hA (by omega) h0) rfl <| i_aload rfl <| i_getf hmc rfl <| i_aldq' (c_cell hA (by omega) e1) (⟨⟨rfl, m5, by omega⟩, congrArg va_rf (n1 _ m5)⟩) <| i_astore <| i_aload rfl <| i_aload rfl <| j_rdS (sp_hears hrc hmc) rfl rfl <| i_ifbn ?_ ?_)
  · intro hh
    have hh' := of_decide_eq_true hh
    refine b_G_receive_20 hX _ _ _ _ _ (i_aload rfl <| i_aload rfl <| j_rdS (sp_isOutdated (Z := Z) (by omega) m5 m4 hrc hmc (r3.fm hE.im) (m2.fm hE.im)) rfl rfl <| i_ifb ?_ ?_)
    · intro ho
      have ho' := of_decide_eq_false ho
      have eS : g_recv N S m = (2, g_kind N (g_rep S (mD m) (r_raise (gR S (mD m)) (mX m))) (mD m) m) := by
        rw [g_recv, if_neg (fun z => z hh'), if_neg ho']
      refine b_G_receive_30 hX _ _ _ _ _ (i_aload rfl <| i_aload rfl <| i_getf hmc rfl <| ?_)
      refine j_callV hrc (sp_raiseVector hE (by omega) (by omega) hR m2) rfl rfl ?_
      rintro v F' ⟨rfl, f1, c1, rfl, x1, s1, hR1⟩
      have hE1 := hE.ext x1
      obtain ⟨la1, va1, p1, p2⟩ := id hR1
      refine (i_aload rfl <| ?_)
      refine j_callV (c_cell hA h5' p1) (sp_forgetOutdated hE1 (by omega) (by omega) hR1) rfl rfl ?_
      rintro v F' ⟨rfl, c2, rfl, s2, hR2⟩
      have hG2 : GRc Z f1 A N c2 (g_rep S (mD m) (r_raise (gR S (mD m)) (mX m))) := hG.rep (by omega) m5 x1 (fun k hk => (s2 k hk).trans (s1 k (fun e => hk (Or.inl e)))) hR2
      have hmq : MsgR Z f1 N q m := hm.fm (fun a c _ h => x1 a c h)
      have hmc2 : ∀ c, hC (5 + 5 * N) A f1 c q = _ := fun c => hE1.im (cs := c) _ _ mz (x1 _ _ m1)
      have hRi : gR (g_rep S (mD m) (r_raise (gR S (mD m)) (mX m))) (mD m) = r_raise (gR S (mD m)) (mX m) := va_s _ _ _
      have fin : ∀ (f3 : HF) (c3 : Nat → PC) (S3 : GS) (bc bs : Nat), Ext f f3 → GRc Z f3 A N c3 S3 → S3 = g_kind N (g_rep S (mD m) (r_raise (gR S (mD m)) (mX m))) (mD m) m → FR l D cid m_G_receive X 185 [some (.ref (A 0)), some (.ref q), some (.ref (A (5 + 5 * mD m)))] [] (hC (5 + 5 * N) A f3 c3) bc bs := by
        intro f3 c3 S3 bc bs x3 hg3 he
        refine b_G_receive_185 hX _ _ _ _ _ (i_push <| i_iret ?_)
        rw [eS]
        refine ⟨rfl, f3, c3, rfl, x3, ?_⟩
        rw [← he]
        exact hg3
      have hT2 : gT (g_rep S (mD m) (r_raise (gR S (mD m)) (mX m))) < 2 ^ 28 := hT
      have hVr : sml (rV (gR (g_join N (g_rep S (mD m) (r_raise (gR S (mD m)) (mX m))) (mD m) m) (mD m))) := by
        rw [g_join]
        split
        · show sml (rV (gR (g_all _ (mD m) 5 N) (mD m)))
          rw [g_all_R, g_rep_R]
          exact hmv
        · rw [hRi]
          exact (hV _ m5).1
      have hTj : gT (g_join N (g_rep S (mD m) (r_raise (gR S (mD m)) (mX m))) (mD m) m) < 2 ^ 29 := by
        rw [g_join]
        split
        · have := g_all_T (g_rep (g_rep S (mD m) (r_raise (gR S (mD m)) (mX m))) (mD m) (r_start (gR (g_rep S (mD m) (r_raise (gR S (mD m)) (mX m))) (mD m)) (mV m))) (mD m) 5 N
          have h9 : gT (g_rep (g_rep S (mD m) (r_raise (gR S (mD m)) (mX m))) (mD m) (r_start (gR (g_rep S (mD m) (r_raise (gR S (mD m)) (mX m))) (mD m)) (mV m))) = gT S := rfl
          rw [h9] at this
          refine Nat.lt_of_le_of_lt this ?_
          omega
        · exact Nat.lt_trans hT2 (by decide)
      have hres : ∃ v : Nat, v < 2 ^ 31 ∧ gvw (rR (r_resp (gR (g_rep S (mD m) (r_raise (gR S (mD m)) (mX m))) (mD m)) m)) N = nI v := by
        refine (sml_gvw (fun s mm hs hmm => ?_)).ex
        rw [hRi] at hmm
        have hmm' : va_up (drp (rR (gR S (mD m))) (rse (rX (gR S (mD m))) (mX m))) (mS m) (some m) s = some mm := hmm
        by_cases e : s = mS m
        · rw [e, va_s] at hmm'
          cases hmm'
          exact hmv
        · rw [va_n e] at hmm'
          cases hk : rR (gR S (mD m)) s with
          | none => rw [drp_n hk] at hmm'; cases hmm'
          | some m' =>
            rw [drp_s hk] at hmm'
            split at hmm'
            · cases hmm'
            · cases hmm'
              exact (hV _ m5).2 s _ hs hk
      refine (i_aload rfl <| i_getf (hmc2 _) rfl <| i_sw8 ?_ ?_ ?_ ?_ ?_ ?_ ?_ ?_ ?_)
      · intro hk
        refine b_G_receive_92 hX _ _ _ _ _ (i_aload rfl <| i_aload rfl <| i_aload rfl <| ?_)
        refine j_callV (c_cell hA (by omega) hG2.1) (sp_takePrepare hE1 hN m5 hmq hG2 (Nat.lt_trans hT2 (by decide))) rfl rfl ?_
        rintro v F' ⟨rfl, f3, c3, rfl, x3, hg3⟩
        refine (i_end ?_)
        exact fin f3 c3 _ _ _ (x1.trans x3) hg3 (by rw [g_kind, if_pos hk])
      · intro hk
        refine b_G_receive_101 hX _ _ _ _ _ (i_aload rfl <| i_aload rfl <| i_aload rfl <| ?_)
        refine j_callV (c_cell hA (by omega) hG2.1) (sp_takeOk hE1 hN m5 hmq hG2) rfl rfl ?_
        rintro v F' ⟨rfl, f3, c3, rfl, x3, hg3⟩
        refine (i_end ?_)
        exact fin f3 c3 _ _ _ (x1.trans x3) hg3 (by rw [g_kind, hk, if_neg (by decide), if_pos rfl])
      · intro hk
        refine b_G_receive_110 hX _ _ _ _ _ (i_aload rfl <| i_aload rfl <| i_aload rfl <| i_push <| ?_)
        refine j_callV (c_cell hA (by omega) hG2.1) (sp_replyIfNormal (kind := 4) hE1 hN m5 hmq hG2 (Nat.lt_trans hT2 (by decide))) rfl rfl ?_
        rintro v F' ⟨rfl, f3, c3, rfl, x3, hg3⟩
        refine (i_end ?_)
        exact fin f3 c3 _ _ _ (x1.trans x3) hg3 (by rw [g_kind, hk, if_neg (by decide), if_neg (by decide), if_pos rfl])
      · intro hk
        refine b_G_receive_120 hX _ _ _ _ _ (i_aload rfl <| i_aload rfl <| i_aload rfl <| ?_)
        refine j_callV (c_cell hA (by omega) hG2.1) (sp_takeState hE1 hN m5 hmq hG2 (Nat.lt_trans hT2 (by decide)) hmv.ex) rfl rfl ?_
        rintro v F' ⟨rfl, f3, c3, rfl, x3, hg3⟩
        refine (i_end ?_)
        exact fin f3 c3 _ _ _ (x1.trans x3) hg3 (by rw [g_kind, hk, if_neg (by decide), if_neg (by decide), if_neg (by decide), if_pos rfl])
      · intro hk
        refine b_G_receive_129 hX _ _ _ _ _ (i_aload rfl <| i_aload rfl <| i_aload rfl <| ?_)
        refine j_callV (c_cell hA (by omega) hG2.1) (sp_joinChange hE1 hN m5 hmq hG2 (Nat.lt_trans hT2 (by decide))) rfl rfl ?_
        rintro v F' ⟨rfl, f3, c3, rfl, x3, hg3⟩
        have hE3 := hE1.ext x3
        refine (i_ifb ?_ ?_)
        · intro hb
          exact fin f3 c3 _ _ _ (x1.trans x3) hg3 (by rw [g_kind, hk, if_neg (by decide), if_neg (by decide), if_neg (by decide), if_neg (by decide), if_pos rfl, if_neg (of_decide_eq_false hb)])
        · intro hb
          refine b_G_receive_138 hX _ _ _ _ _ (i_aload rfl <| i_aload rfl <| i_aload rfl <| ?_)
          refine j_callV (c_cell hA (by omega) hg3.1) (sp_keepVote hE3 hN m5 (hmq.fm (fun a c _ h => x3 a c h)) hg3 hTj hVr.ex) rfl rfl ?_
          rintro v F' ⟨rfl, f4, c4, rfl, x4, hg4⟩
          refine (i_end ?_)
          exact fin f4 c4 _ _ _ (x1.trans (x3.trans x4)) hg4 (by rw [g_kind, hk, if_neg (by decide), if_neg (by decide), if_neg (by decide), if_neg (by decide), if_pos rfl, if_pos (of_decide_eq_true hb)])
      · intro hk
        refine b_G_receive_147 hX _ _ _ _ _ (i_aload rfl <| i_aload rfl <| i_aload rfl <| ?_)
        refine j_callV (c_cell hA (by omega) hG2.1) (sp_joinChange hE1 hN m5 hmq hG2 (Nat.lt_trans hT2 (by decide))) rfl rfl ?_
        rintro v F' ⟨rfl, f3, c3, rfl, x3, hg3⟩
        have hE3 := hE1.ext x3
        refine (i_ifb ?_ ?_)
        · intro hb
          exact fin f3 c3 _ _ _ (x1.trans x3) hg3 (by rw [g_kind, hk, if_neg (by decide), if_neg (by decide), if_neg (by decide), if_neg (by decide), if_neg (by decide), if_pos rfl, if_neg (of_decide_eq_false hb)])
        · intro hb
          refine b_G_receive_156 hX _ _ _ _ _ (i_aload rfl <| i_aload rfl <| i_aload rfl <| ?_)
          refine j_callV (c_cell hA (by omega) hg3.1) (sp_keepPaper hE3 hN m5 (hmq.fm (fun a c _ h => x3 a c h)) hg3 hTj) rfl rfl ?_
          rintro v F' ⟨rfl, f4, c4, rfl, x4, hg4⟩
          refine (i_end ?_)
          exact fin f4 c4 _ _ _ (x1.trans (x3.trans x4)) hg4 (by rw [g_kind, hk, if_neg (by decide), if_neg (by decide), if_neg (by decide), if_neg (by decide), if_neg (by decide), if_pos rfl, if_pos (of_decide_eq_true hb)])
      · intro hk
        refine b_G_receive_165 hX _ _ _ _ _ (i_aload rfl <| i_aload rfl <| i_aload rfl <| i_push <| ?_)
        refine j_callV (c_cell hA (by omega) hG2.1) (sp_replyIfNormal (kind := 8) hE1 hN m5 hmq hG2 (Nat.lt_trans hT2 (by decide))) rfl rfl ?_
        rintro v F' ⟨rfl, f3, c3, rfl, x3, hg3⟩
        refine (i_end ?_)
        exact fin f3 c3 _ _ _ (x1.trans x3) hg3 (by rw [g_kind, hk, if_neg (by decide), if_neg (by decide), if_neg (by decide), if_neg (by decide), if_neg (by decide), if_neg (by decide), if_pos rfl])
      · intro hk
        refine b_G_receive_176 hX _ _ _ _ _ (i_aload rfl <| i_aload rfl <| i_aload rfl <| ?_)
        refine j_callV (c_cell hA (by omega) hG2.1) (sp_keepResponse hE1 hN m5 hmq hG2 hres) rfl rfl ?_
        rintro v F' ⟨rfl, f3, c3, rfl, x3, hg3⟩
        refine (i_end ?_)
        exact fin f3 c3 _ _ _ (x1.trans x3) hg3 (by rw [g_kind, hk, if_neg (by decide), if_neg (by decide), if_neg (by decide), if_neg (by decide), if_neg (by decide), if_neg (by decide), if_neg (by decide), if_pos rfl])
      · intro k1 k2 k3 k4 k5 k6 k7 k8
        exact fin f1 c2 _ _ _ x1 hG2 (by rw [g_kind, if_neg k1, if_neg k2, if_neg k3, if_neg k4, if_neg k5, if_neg k6, if_neg k7, if_neg k8])
    · intro ho
      refine b_G_receive_28 hX _ _ _ _ _ (i_push <| i_iret ?_)
      have eS : g_recv N S m = (1, S) := by
        rw [g_recv, if_neg (fun z => z hh'), if_pos (of_decide_eq_true ho)]
      rw [eS]
      exact ⟨rfl, f, cs, rfl, ext_r f, hG⟩
  · intro hh
    refine b_G_receive_18 hX _ _ _ _ _ (i_push <| i_iret ?_)
    have eS : g_recv N S m = (0, S) := by
      rw [g_recv, if_pos (of_decide_eq_false hh)]
    rw [eS]
    exact ⟨rfl, f, cs, rfl, ext_r f, hG⟩
end SPL
