section SPI
variable {l : Launch} {D : va_G} {cid : Nat → ClassId} {Z : Nat → Prop} {f : HF} {A : Nat → Nat} {N i : Nat} {cs : Nat → PC} {S : GS}
theorem ne_of {F : HF} {a q : Nat} {c : PC} (h : F a = some c) (hq : F q = none) : a ≠ q := fun e => by rw [e, hq] at h; cases h
theorem sp_takePrepare {ma : Nat} {m : Msg} (hE : En Z A N f) (hN : N = 3 ∨ N = 5) (hi : i < N) (hm : MsgR Z f N ma m) (hG : GRc Z f A N cs S) (hT : gT S < 2 ^ 30) :
    CS l D cid m_G_takePrepare [.ref (A 0), .ref (A (5 + 5 * i)), .ref ma] (hC (5 + 5 * N) A f cs) (PH Z f A N none (g_prep S i m)) := by
  intro X hX
  have hA := hE.1
  have h5' : 5 + 5 * i < 5 + 5 * N := by omega
  have hR := hG.2.2.2.2.2 i hi
  obtain ⟨la, va, r1, r2, r3, r4, r5, r6, r7, r8, r9⟩ := id hR
  obtain ⟨mz, mva, mla, m1, m2, m3, m4, m5, m6⟩ := id hm
  have hmc := hE.im (cs := cs) _ _ mz m1
  obtain ⟨lb, hlb⟩ := r2.cell
  have hlc := hE.im (cs := cs) _ _ r2.nz hlb
  obtain ⟨mb, hmb⟩ := m3.cell
  have hmlc := hE.im (cs := cs) _ _ m3.nz hmb
  have hlen := r2.len
  have hmlen := m3.len
  refine b_G_takePrepare_0 hX _ _ _ _ _ (i_aload rfl <| i_getf hmc rfl <| i_aload rfl <| i_getf (c_cell hA h5' r1) rfl <| i_cmp ?_ ?_)
  · intro h0
    have h0' : ¬ mV m < rV (gR S i) := Int32.not_lt.mpr h0
    have h59 : (¬ (mV m = rV (gR S i) ∧ rS (gR S i) = 0) ∨ nI (rG (gR S i)).length + 1 < nI (mG m).length) → ∀ x3, FR l D cid m_G_takePrepare X 59 [some (.ref (A 0)), some (.ref (A (5 + 5 * i))), some (.ref ma), x3] [] (hC (5 + 5 * N) A f cs) m_G_takePrepare.2.2.2.2.cells m_G_takePrepare.2.2.2.2.slots := by
      intro hc x3
      refine b_G_takePrepare_59 hX _ _ _ _ _ (i_aload rfl <| i_aload rfl <| i_push <| i_aload rfl <| i_getf hmc rfl <| ?_)
      refine j_callV (c_cell hA (by omega) hG.1) (sp_send (i := i) (d := mS m) (kind := 3) hE hN hi m4 hG hT) rfl rfl ?_
      rintro v F' ⟨rfl, f2, c2, rfl, hx2, hg2⟩
      refine (i_ret ?_)
      refine ⟨rfl, f2, c2, rfl, hx2, ?_⟩
      rw [g_prep, if_neg h0', if_pos hc]
      exact hg2
    have h34 : ¬ (mV m = rV (gR S i) ∧ rS (gR S i) = 0) → FR l D cid m_G_takePrepare X 34 [some (.ref (A 0)), some (.ref (A (5 + 5 * i))), some (.ref ma), none] [] (hC (5 + 5 * N) A f cs) m_G_takePrepare.2.2.2.2.cells m_G_takePrepare.2.2.2.2.slots := by
      intro hc
      refine b_G_takePrepare_34 hX _ _ _ _ _ (i_push <| i_end ?_)
      refine b_G_takePrepare_35 hX _ _ _ _ _ (i_istore <| i_iload rfl <| i_if_t rfl ?_)
      exact h59 (Or.inl hc) _
    refine b_G_takePrepare_12 hX _ _ _ _ _ (i_aload rfl <| i_getf hmc rfl <| i_aload rfl <| i_getf (c_cell hA h5' r1) rfl <| i_cmp ?_ ?_)
    · intro hne
      exact h34 (fun q => hne q.1)
    · intro heq
      have heq' := Classical.not_not.mp heq
      refine b_G_takePrepare_23 hX _ _ _ _ _ (i_aload rfl <| i_getf (c_cell hA h5' r1) rfl <| i_if ?_ ?_)
      · intro hs
        exact h34 (fun q => hs q.2)
      · intro hs
        have hs' := Classical.not_not.mp hs
        refine b_G_takePrepare_30 hX _ _ _ _ _ (i_push <| i_end ?_)
        refine b_G_takePrepare_35 hX _ _ _ _ _ (i_istore <| i_iload rfl <| i_if_f (by decide) ?_)
        refine b_G_takePrepare_40 hX _ _ _ _ _ (i_aload rfl <| i_getf hmc rfl <| i_getf hmlc rfl <| i_aload rfl <| i_getf (c_cell hA h5' r1) rfl <| i_getf hlc rfl <| i_push <| i_bin <| i_cmp ?_ ?_)
        · intro hle
          have hc : ¬ (¬ (mV m = rV (gR S i) ∧ rS (gR S i) = 0) ∨ nI (rG (gR S i)).length + 1 < nI (mG m).length) := fun q => q.elim (fun z => z ⟨heq', hs'⟩) (fun z => Int32.not_lt.mpr hle z)
          have h125 : ∀ (f1 : HF) (c1 : Nat → PC) (x3 : Option Value) (bc bs : Nat), Ext f f1 → GRc Z f1 A N c1 (g_rep S i (r_put (gR S i) m)) → 1 ≤ bc → 8 ≤ bs → FR l D cid m_G_takePrepare X 125 [some (.ref (A 0)), some (.ref (A (5 + 5 * i))), some (.ref ma), x3] [] (hC (5 + 5 * N) A f1 c1) bc bs := by
            intro f1 c1 x3 bc bs hx hg hb1 hb2
            have hR1 := hg.2.2.2.2.2 i hi
            rw [g_rep_R] at hR1
            obtain ⟨la1, va1, p1, p2, p3, p4, p5, p6, p7, p8, p9⟩ := id hR1
            have hE1 := hE.ext hx
            obtain ⟨lb1, hlb1⟩ := p2.cell
            have hl1 := p2.len
            refine b_G_takePrepare_125 hX _ _ _ _ _ (i_aload rfl <| i_aload rfl <| i_getf (c_cell hA h5' p1) rfl <| i_aload rfl <| i_getf (hE1.im _ _ mz (hx _ _ m1)) rfl <| i_aload rfl <| i_getf (c_cell hA h5' p1) rfl <| i_getf (hE1.im _ _ p2.nz hlb1) rfl <| j_rdS (sp_min) rfl rfl <| j_rdS (sp_max) rfl rfl <| c_putI hA h5' p1 rfl <| i_aload rfl <| i_aload rfl <| i_push <| i_aload rfl <| i_getf (hE1.im _ _ mz (hx _ _ m1)) rfl <| ?_)
            have hR2 := RepC.set (R' := r_com (r_put (gR S i) m) (mx (rC (gR S i)) (mn (mC m) (nI (rG (r_put (gR S i) m)).length)))) (ext_r f1) hR1 (by omega) p2 p3 rfl rfl rfl rfl (b24_mx r8 (b24_mn m6 ⟨_, hl1, rfl⟩))
            have hG2 := hg.rep (by omega) hi (ext_r f1) (fun k hk => va_n (fun e => hk (Or.inl e))) hR2
            rw [g_rep_rep] at hG2
            rw [r_put_C]
            refine j_callV (c_cell hA (by omega) hG2.1) (sp_send (i := i) (d := mS m) (kind := 2) hE1 hN hi m4 hG2 hT) rfl rfl ?_ (h4 := hb1) (h5 := hb2)
            rintro v F' ⟨rfl, f2, c2, rfl, hx2, hg2⟩
            refine (i_ret ?_)
            refine ⟨rfl, f2, c2, rfl, hx.trans hx2, ?_⟩
            rw [g_prep, if_neg h0', if_neg hc]
            exact hg2
          refine b_G_takePrepare_70 hX _ _ _ _ _ (i_aload rfl <| i_getf hmc rfl <| i_getf hmlc rfl <| i_aload rfl <| i_getf (c_cell hA h5' r1) rfl <| i_getf hlc rfl <| i_push <| i_bin <| i_cmp ?_ ?_)
          · intro hne'
            refine h125 f cs _ _ _ (ext_r f) ?_ (by decide) (by decide)
            rw [r_put, if_neg hne', g_rep_id]
            exact hG
          · intro heq2
            have heq2' := Classical.not_not.mp heq2
            have hln : (mG m).length = (rG (gR S i)).length + 1 := (nI_eq (by omega) (by omega)).mp (heq2'.trans (nI_succ _).symm)
            refine b_G_takePrepare_89 hX _ _ _ _ _ (i_aload rfl <| i_new ⟨by decide, by decide⟩ fun q1 hq1 => i_dup <| i_aload rfl <| ?_)
            have hqA := (hC_none hq1).1
            obtain ⟨qz, qn⟩ := hE.no hq1
            have nr : A (5 + 5 * i) ≠ q1 := ne_of (c_cell hA h5' r1) hq1
            have nm : ma ≠ q1 := ne_of hmc hq1
            have nl : mla ≠ q1 := ne_of hmlc hq1
            refine (i_getf ((hup_n nr).trans (c_cell hA h5' r1)) rfl <| i_aload rfl <| i_getf ((hup_n nm).trans hmc) rfl <| i_getf ((hup_n nl).trans hmlc) rfl <| i_aload rfl <| i_getf ((hup_n nm).trans hmc) rfl <| i_getf ((hup_n nl).trans hmlc) rfl <| i_aload rfl <| i_getf ((hup_n nm).trans hmc) rfl <| i_getf ((hup_n nl).trans hmlc) rfl <| ?_)
            refine j_upI (sp_L_init2 (Z := Z) (es := rG (gR S i)) (hup_s _ _ _) (ne_of hlc hq1) (r2.fm (fun a c hz h => (hup_n (ne_of (hE.im (cs := cs) _ _ hz h) hq1)).trans (hE.im _ _ hz h)))) rfl rfl ?_
            rw [hup_hup, hC_new hq1]
            have hx1 := Ext.new (c := .inl (0, [.ref la, .int (nI ((rG (gR S i)).length + 1)), .int (hd (mG m)).1, .int (hd (mG m)).2.1, .int (hd (mG m)).2.2, .int (tot (((hd (mG m)).1, (hd (mG m)).2.1, (hd (mG m)).2.2) :: rG (gR S i)))])) qn
            refine (c_putR hA h5' r1 rfl <| i_end ?_)
            refine h125 _ _ _ _ _ hx1 ?_ (by decide) (by decide)
            have hl' : LogR Z (hup f q1 (.inl (0, [.ref la, .int (nI ((rG (gR S i)).length + 1)), .int (hd (mG m)).1, .int (hd (mG m)).2.1, .int (hd (mG m)).2.2, .int (tot (((hd (mG m)).1, (hd (mG m)).2.1, (hd (mG m)).2.2) :: rG (gR S i)))]))) (rG (r_put (gR S i) m)) q1 := by
              rw [r_put, if_pos heq2']
              exact ⟨qz, by omega, m3.cl, la, hup_s _ _ _, r2.fm (fun a c _ h => hx1 a c h)⟩
            refine hG.rep (by omega) hi hx1 (fun k hk => va_n (fun e => hk (Or.inl e))) ?_
            have e2 : r_put (gR S i) m = (rS (gR S i), rV (gR S i), rL (gR S i), hd (mG m) :: rG (gR S i), (gR S i).2.2.2.2) := by rw [r_put, if_pos heq2']
            rw [e2] at hl' ⊢
            exact RepC.set hx1 hR (by omega) hl' (r3.fm (fun a c _ h => hx1 a c h)) rfl rfl rfl rfl r8
        · intro hgt
          exact h59 (Or.inr (Int32.not_le.mp hgt)) _
  · intro h0
    refine b_G_takePrepare_11 hX _ _ _ _ _ (i_ret ?_)
    refine ⟨rfl, f, cs, rfl, ext_r f, ?_⟩
    rw [g_prep, if_pos (Int32.not_le.mp h0)]
    exact hG
theorem sp_startChanging {v : Int32} (hE : En Z A N f) (hN : N = 3 ∨ N = 5) (hi : i < N) (hG : GRc Z f A N cs S) (hT : gT S < 2 ^ 29) :
    CS l D cid m_G_startChanging [.ref (A 0), .ref (A (5 + 5 * i)), .int v] (hC (5 + 5 * N) A f cs) (PH Z f A N none (g_start N S i v)) := by
  intro X hX
  have hA := hE.1
  have h5' : 5 + 5 * i < 5 + 5 * N := by omega
  obtain ⟨la, va, r1, r2, r3, r4, ⟨g1, k1, k1'⟩, ⟨g2, k2, k2'⟩, ⟨g3, k3, k3'⟩, r8, r9⟩ := hG.2.2.2.2.2 i hi
  refine b_G_startChanging_0 hX _ _ _ _ _ (i_aload rfl <| i_push <| c_putI hA h5' r1 rfl <| i_aload rfl <| i_iload rfl <| c_putI hA h5' (va_s _ _ _) rfl <| i_aload rfl <| ?_)
  simp only [va_va]
  refine j_callV (c_cell hA h5' (va_s _ _ _)) (sp_forgetKept (la := la) (va := va) (R := (1, v, (gR S i).2.2)) (g1 := g1) (g2 := g2) (g3 := g3) hA (by omega) (by omega) (va_s _ _ _) ((va_n (by omega)).trans k1) ((va_n (by omega)).trans k2) ((va_n (by omega)).trans k3)) rfl rfl ?_
  rintro w f' ⟨rfl, c1, rfl, hs, n1, n2, n3⟩
  have e5 : c1 (5 + 5 * i) = .inl (2, robj A i la va (1, v, (gR S i).2.2)) := (hs _ (by omega) (by omega) (by omega)).trans (va_s _ _ _)
  refine (i_aload rfl <| i_push <| c_putZ hA h5' e5 rfl <| i_aload rfl <| i_aload rfl <| i_push <| ?_)
  have hR' : RepC Z f A N (va_up c1 (5 + 5 * i) (.inl (2, robj A i la va (r_start (gR S i) v)))) i (r_start (gR S i) v) :=
    ⟨la, va, va_s _ _ _, r2, r3, r4.fm ((va_n (by omega)).trans ((hs _ (by omega) (by omega) (by omega)).trans (va_n (by omega)))), n1.kep.fm (ext_r f) (va_n (by omega)), n2.kep.fm (ext_r f) (va_n (by omega)), n3.kep.fm (ext_r f) (va_n (by omega)), r8, r9⟩
  have hG2 := hG.rep (by omega) hi (ext_r f) (fun k hk => by
    have hk' := hk
    simp only [W5] at hk'
    rw [va_n (by omega), hs k (by omega) (by omega) (by omega), va_n (by omega)]) hR'
  refine j_callV (c_cell hA (by omega) hG2.1) (sp_sendToAll (i := i) (kind := 5) hE hN hi hG2 hT) rfl rfl ?_
  rintro v' F' ⟨rfl, f2, c2, rfl, hx2, hg2⟩
  refine (i_ret ?_)
  exact ⟨rfl, f2, c2, rfl, hx2, hg2⟩
theorem sp_takeState {ma : Nat} {m : Msg} (hE : En Z A N f) (hN : N = 3 ∨ N = 5) (hi : i < N) (hm : MsgR Z f N ma m) (hG : GRc Z f A N cs S) (hT : gT S < 2 ^ 30) (hv : ∃ v : Nat, v < 2 ^ 31 ∧ mV m = nI v) :
    CS l D cid m_G_takeState [.ref (A 0), .ref (A (5 + 5 * i)), .ref ma] (hC (5 + 5 * N) A f cs) (PH Z f A N none (g_state N S i m)) := by
  intro X hX
  have hA := hE.1
  have h5' : 5 + 5 * i < 5 + 5 * N := by omega
  have hR := hG.2.2.2.2.2 i hi
  obtain ⟨la, va, r1, r2, r3, r4, r5, r6, r7, r8, r9⟩ := id hR
  obtain ⟨mz, mva, mla, m1, m2, m3, m4, m5, m6⟩ := id hm
  have hmc := hE.im (cs := cs) _ _ mz m1
  obtain ⟨lb, hlb⟩ := r2.cell
  have hlc := hE.im (cs := cs) _ _ r2.nz hlb
  obtain ⟨mb, hmb⟩ := m3.cell
  have hmlc := hE.im (cs := cs) _ _ m3.nz hmb
  obtain ⟨vv, hvv, hve⟩ := hv
  have hprim : fmod (mV m) (nI N) = nI (vv % N) := by rw [hve, fm_N hvv hN]
  have hpn : vv % N < N := Nat.mod_lt _ (by omega)
  have hpd : prim N (mV m) = vv % N := by rw [prim, hprim]; exact nI_clamp (by omega)
  refine b_G_takeState_0 hX _ _ _ _ _ (i_aload rfl <| i_aload rfl <| i_getf hmc rfl <| j_rdV (c_cell hA (by omega) hG.1) (sp_primaryOf hA hN hG.1) rfl rfl <| i_aload rfl <| i_getf (c_cell hA h5' r1) rfl <| i_cmp ?_ ?_)
  · intro hne
    have h110 : ¬ (rV (gR S i) < mV m ∨ (mV m = rV (gR S i) ∧ (rS (gR S i) = 1 ∨ nI (rG (gR S i)).length < nI (mG m).length))) → ∀ x3 bc bs, FR l D cid m_G_takeState X 110 [some (.ref (A 0)), some (.ref (A (5 + 5 * i))), some (.ref ma), x3] [] (hC (5 + 5 * N) A f cs) bc bs := by
      intro hc x3 bc bs
      refine b_G_takeState_110 hX _ _ _ _ _ (i_ret ?_)
      refine ⟨rfl, f, cs, rfl, ext_r f, ?_⟩
      rw [g_state, if_neg hne, if_neg hc]
      exact hG
    have h73 : (rV (gR S i) < mV m ∨ (mV m = rV (gR S i) ∧ (rS (gR S i) = 1 ∨ nI (rG (gR S i)).length < nI (mG m).length))) → ∀ x3, FR l D cid m_G_takeState X 73 [some (.ref (A 0)), some (.ref (A (5 + 5 * i))), some (.ref ma), x3] [] (hC (5 + 5 * N) A f cs) m_G_takeState.2.2.2.2.cells m_G_takeState.2.2.2.2.slots := by
      intro hc x3
      refine b_G_takeState_73 hX _ _ _ _ _ (i_aload rfl <| i_aload rfl <| i_getf hmc rfl <| i_aload rfl <| i_getf hmc rfl <| i_aload rfl <| i_getf (c_cell hA h5' r1) rfl <| i_aload rfl <| i_getf hmc rfl <| j_rdS (sp_max) rfl rfl <| ?_)
      refine j_callV (c_cell hA h5' r1) (sp_becomeNormal (la' := mla) (v := mV m) hA (by omega) (by omega) hR m3 (b24_mx r8 m6)) rfl rfl ?_
      rintro w f' ⟨rfl, c1, rfl, hs, hR1⟩
      have hG1 := hG.rep (by omega) hi (ext_r f) hs hR1
      refine (i_aload rfl <| i_aload rfl <| i_push <| i_aload rfl <| i_aload rfl <| i_getf (hE.im _ _ mz m1) rfl <| j_rdV (c_cell hA (by omega) hG1.1) (sp_primaryOf hA hN hG1.1) rfl rfl <| ?_)
      rw [hprim]
      refine j_callV (c_cell hA (by omega) hG1.1) (sp_send (i := i) (d := vv % N) (kind := 2) hE hN hi hpn hG1 hT) rfl rfl ?_
      rintro v' F' ⟨rfl, f2, c2, rfl, hx2, hg2⟩
      refine (i_end ?_)
      refine b_G_takeState_110 hX _ _ _ _ _ (i_ret ?_)
      refine ⟨rfl, f2, c2, rfl, hx2, ?_⟩
      rw [g_state, if_neg hne, if_pos hc, hpd]
      exact hg2
    have h46 : ∀ b : Bool, b = decide (rS (gR S i) = 1 ∨ nI (rG (gR S i)).length < nI (mG m).length) → FR l D cid m_G_takeState X 46 [some (.ref (A 0)), some (.ref (A (5 + 5 * i))), some (.ref ma), none] [.int (bI b)] (hC (5 + 5 * N) A f cs) m_G_takeState.2.2.2.2.cells m_G_takeState.2.2.2.2.slots := by
      intro b hb
      refine b_G_takeState_46 hX _ _ _ _ _ (i_istore <| i_aload rfl <| i_getf hmc rfl <| i_aload rfl <| i_getf (c_cell hA h5' r1) rfl <| i_cmp ?_ ?_)
      · intro h
        exact h73 (Or.inl h) _
      · intro h
        refine b_G_takeState_58 hX _ _ _ _ _ (i_aload rfl <| i_getf hmc rfl <| i_aload rfl <| i_getf (c_cell hA h5' r1) rfl <| i_cmp ?_ ?_)
        · intro hn
          exact h110 (fun q => q.elim h (fun z => hn z.1)) _ _ _
        · intro hn
          refine b_G_takeState_69 hX _ _ _ _ _ (i_iload rfl <| i_ifb ?_ ?_)
          · intro hf
            exact h110 (fun q => q.elim h (fun z => by rw [hb] at hf; exact of_decide_eq_false hf z.2)) _ _ _
          · intro ht
            exact h73 (Or.inr ⟨Classical.not_not.mp hn, by rw [hb] at ht; exact of_decide_eq_true ht⟩) _
    refine b_G_takeState_16 hX _ _ _ _ _ (i_aload rfl <| i_getf (c_cell hA h5' r1) rfl <| i_push <| i_cmp ?_ ?_)
    · intro h
      refine b_G_takeState_41 hX _ _ _ _ _ (i_push <| i_end ?_)
      exact h46 true (decide_eq_true (Or.inl h)).symm
    · intro h
      refine b_G_takeState_24 hX _ _ _ _ _ (i_aload rfl <| i_getf hmc rfl <| i_getf hmlc rfl <| i_aload rfl <| i_getf (c_cell hA h5' r1) rfl <| i_getf hlc rfl <| i_cmp ?_ ?_)
      · intro h'
        refine b_G_takeState_45 hX _ _ _ _ _ (i_push <| i_end ?_)
        exact h46 false (decide_eq_false (fun q => q.elim h (Int32.not_lt.mpr h'))).symm
      · intro h'
        refine b_G_takeState_41 hX _ _ _ _ _ (i_push <| i_end ?_)
        exact h46 true (decide_eq_true (Or.inr (Int32.not_le.mp h'))).symm
  · intro heq
    refine b_G_takeState_15 hX _ _ _ _ _ (i_ret ?_)
    refine ⟨rfl, f, cs, rfl, ext_r f, ?_⟩
    rw [g_state, if_pos (Classical.not_not.mp heq)]
    exact hG
end SPI
